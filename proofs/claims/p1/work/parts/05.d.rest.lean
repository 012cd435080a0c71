theorem dX3_isMissing_0 : decode cX3_isMissing 0 = .ok (.aload_n 0, 1) := by decide +kernel
theorem dX3_isMissing_1 : decode cX3_isMissing 1 = .ok (.getfield 15, 3) := by decide +kernel
theorem dX3_isMissing_4 : decode cX3_isMissing 4 = .ok (.ifCond .ne 7, 3) := by decide +kernel
theorem dX3_isMissing_7 : decode cX3_isMissing 7 = .ok (.iconst 1, 1) := by decide +kernel
theorem dX3_isMissing_8 : decode cX3_isMissing 8 = .ok (.goto 4, 3) := by decide +kernel
theorem dX3_isMissing_12 : decode cX3_isMissing 12 = .ok (.ireturn, 1) := by decide +kernel
theorem dX7_put_0 : decode cX7_put 0 = .ok (.iload_n 1, 1) := by decide +kernel
theorem dX7_put_1 : decode cX7_put 1 = .ok (.invokestatic 225, 3) := by decide +kernel
theorem dX7_put_4 : decode cX7_put 4 = .ok (.ifCond .ne 10, 3) := by decide +kernel
theorem dX7_put_14 : decode cX7_put 14 = .ok (.aload_n 0, 1) := by decide +kernel
theorem dX7_put_15 : decode cX7_put 15 = .ok (.getfield 51, 3) := by decide +kernel
theorem dX7_put_18 : decode cX7_put 18 = .ok (.iload_n 1, 1) := by decide +kernel
theorem dX7_put_19 : decode cX7_put 19 = .ok (.aaload, 1) := by decide +kernel
theorem dX7_put_20 : decode cX7_put 20 = .ok (.astore 4, 2) := by decide +kernel
theorem dX7_put_22 : decode cX7_put 22 = .ok (.aload 4, 2) := by decide +kernel
theorem dX7_put_24 : decode cX7_put 24 = .ok (.invokevirtual 228, 3) := by decide +kernel
theorem dX7_put_27 : decode cX7_put 27 = .ok (.ifCond .eq 10, 3) := by decide +kernel
theorem dX7_put_30 : decode cX7_put 30 = .ok (.aload_n 0, 1) := by decide +kernel
theorem dX7_put_31 : decode cX7_put 31 = .ok (.ldc 197, 2) := by decide +kernel
theorem dX7_put_33 : decode cX7_put 33 = .ok (.invokevirtual 69, 3) := by decide +kernel
theorem dX7_put_36 : decode cX7_put 36 = .ok (.ireturn, 1) := by decide +kernel
theorem dX7_put_7 : decode cX7_put 7 = .ok (.aload_n 0, 1) := by decide +kernel
theorem dX7_put_8 : decode cX7_put 8 = .ok (.ldc 68, 2) := by decide +kernel
theorem dX7_put_10 : decode cX7_put 10 = .ok (.invokevirtual 69, 3) := by decide +kernel
theorem dX7_put_13 : decode cX7_put 13 = .ok (.ireturn, 1) := by decide +kernel
theorem dX7_edges_0 : decode cX7_edges 0 = .ok (.iload_n 1, 1) := by decide +kernel
theorem dX7_edges_1 : decode cX7_edges 1 = .ok (.invokestatic 225, 3) := by decide +kernel
theorem dX7_edges_4 : decode cX7_edges 4 = .ok (.ifCond .ne 10, 3) := by decide +kernel
theorem dX7_edges_14 : decode cX7_edges 14 = .ok (.aload_n 0, 1) := by decide +kernel
theorem dX7_edges_15 : decode cX7_edges 15 = .ok (.getfield 51, 3) := by decide +kernel
theorem dX7_edges_18 : decode cX7_edges 18 = .ok (.iload_n 1, 1) := by decide +kernel
theorem dX7_edges_19 : decode cX7_edges 19 = .ok (.aaload, 1) := by decide +kernel
theorem dX7_edges_20 : decode cX7_edges 20 = .ok (.astore_n 2, 1) := by decide +kernel
theorem dX7_edges_21 : decode cX7_edges 21 = .ok (.aload_n 2, 1) := by decide +kernel
theorem dX7_edges_22 : decode cX7_edges 22 = .ok (.invokevirtual 228, 3) := by decide +kernel
theorem dX7_edges_25 : decode cX7_edges 25 = .ok (.ifCond .eq 10, 3) := by decide +kernel
theorem dX7_edges_28 : decode cX7_edges 28 = .ok (.aload_n 0, 1) := by decide +kernel
theorem dX7_edges_29 : decode cX7_edges 29 = .ok (.ldc 197, 2) := by decide +kernel
theorem dX7_edges_31 : decode cX7_edges 31 = .ok (.invokevirtual 69, 3) := by decide +kernel
theorem dX7_edges_34 : decode cX7_edges 34 = .ok (.ireturn, 1) := by decide +kernel
theorem dX7_edges_7 : decode cX7_edges 7 = .ok (.aload_n 0, 1) := by decide +kernel
theorem dX7_edges_8 : decode cX7_edges 8 = .ok (.ldc 68, 2) := by decide +kernel
theorem dX7_edges_10 : decode cX7_edges 10 = .ok (.invokevirtual 69, 3) := by decide +kernel
theorem dX7_edges_13 : decode cX7_edges 13 = .ok (.ireturn, 1) := by decide +kernel
theorem dX7_judge_0 : decode cX7_judge 0 = .ok (.iload_n 1, 1) := by decide +kernel
theorem dX7_judge_1 : decode cX7_judge 1 = .ok (.invokestatic 225, 3) := by decide +kernel
theorem dX7_judge_4 : decode cX7_judge 4 = .ok (.ifCond .ne 10, 3) := by decide +kernel
theorem dX7_judge_14 : decode cX7_judge 14 = .ok (.aload_n 0, 1) := by decide +kernel
theorem dX7_judge_15 : decode cX7_judge 15 = .ok (.getfield 51, 3) := by decide +kernel
theorem dX7_judge_18 : decode cX7_judge 18 = .ok (.iload_n 1, 1) := by decide +kernel
theorem dX7_judge_19 : decode cX7_judge 19 = .ok (.aaload, 1) := by decide +kernel
theorem dX7_judge_20 : decode cX7_judge 20 = .ok (.astore_n 2, 1) := by decide +kernel
theorem dX7_judge_21 : decode cX7_judge 21 = .ok (.aload_n 2, 1) := by decide +kernel
theorem dX7_judge_22 : decode cX7_judge 22 = .ok (.invokevirtual 228, 3) := by decide +kernel
theorem dX7_judge_25 : decode cX7_judge 25 = .ok (.ifCond .eq 10, 3) := by decide +kernel
theorem dX7_judge_28 : decode cX7_judge 28 = .ok (.aload_n 0, 1) := by decide +kernel
theorem dX7_judge_29 : decode cX7_judge 29 = .ok (.ldc 197, 2) := by decide +kernel
theorem dX7_judge_31 : decode cX7_judge 31 = .ok (.invokevirtual 69, 3) := by decide +kernel
theorem dX7_judge_34 : decode cX7_judge 34 = .ok (.ireturn, 1) := by decide +kernel
theorem dX7_judge_7 : decode cX7_judge 7 = .ok (.aload_n 0, 1) := by decide +kernel
theorem dX7_judge_8 : decode cX7_judge 8 = .ok (.ldc 68, 2) := by decide +kernel
theorem dX7_judge_10 : decode cX7_judge 10 = .ok (.invokevirtual 69, 3) := by decide +kernel
theorem dX7_judge_13 : decode cX7_judge 13 = .ok (.ireturn, 1) := by decide +kernel
theorem dX7_sparks_0 : decode cX7_sparks 0 = .ok (.iload_n 1, 1) := by decide +kernel
theorem dX7_sparks_1 : decode cX7_sparks 1 = .ok (.invokestatic 225, 3) := by decide +kernel
theorem dX7_sparks_4 : decode cX7_sparks 4 = .ok (.ifCond .eq 12, 3) := by decide +kernel
theorem dX7_sparks_7 : decode cX7_sparks 7 = .ok (.iload_n 2, 1) := by decide +kernel
theorem dX7_sparks_8 : decode cX7_sparks 8 = .ok (.iconst 0, 1) := by decide +kernel
theorem dX7_sparks_9 : decode cX7_sparks 9 = .ok (.iconst 1, 1) := by decide +kernel
theorem dX7_sparks_10 : decode cX7_sparks 10 = .ok (.invokestatic 60, 3) := by decide +kernel
theorem dX7_sparks_13 : decode cX7_sparks 13 = .ok (.ifCond .ne 10, 3) := by decide +kernel
theorem dX7_sparks_23 : decode cX7_sparks 23 = .ok (.aload_n 0, 1) := by decide +kernel
theorem dX7_sparks_24 : decode cX7_sparks 24 = .ok (.getfield 51, 3) := by decide +kernel
theorem dX7_sparks_27 : decode cX7_sparks 27 = .ok (.iload_n 1, 1) := by decide +kernel
theorem dX7_sparks_28 : decode cX7_sparks 28 = .ok (.aaload, 1) := by decide +kernel
theorem dX7_sparks_29 : decode cX7_sparks 29 = .ok (.astore_n 3, 1) := by decide +kernel
theorem dX7_sparks_30 : decode cX7_sparks 30 = .ok (.aload_n 3, 1) := by decide +kernel
theorem dX7_sparks_31 : decode cX7_sparks 31 = .ok (.invokevirtual 228, 3) := by decide +kernel
theorem dX7_sparks_34 : decode cX7_sparks 34 = .ok (.ifCond .ne 20, 3) := by decide +kernel
theorem dX7_sparks_54 : decode cX7_sparks 54 = .ok (.aload_n 0, 1) := by decide +kernel
theorem dX7_sparks_55 : decode cX7_sparks 55 = .ok (.ldc 197, 2) := by decide +kernel
theorem dX7_sparks_57 : decode cX7_sparks 57 = .ok (.invokevirtual 69, 3) := by decide +kernel
theorem dX7_sparks_60 : decode cX7_sparks 60 = .ok (.ireturn, 1) := by decide +kernel
theorem dX7_sparks_16 : decode cX7_sparks 16 = .ok (.aload_n 0, 1) := by decide +kernel
theorem dX7_sparks_17 : decode cX7_sparks 17 = .ok (.ldc 68, 2) := by decide +kernel
theorem dX7_sparks_19 : decode cX7_sparks 19 = .ok (.invokevirtual 69, 3) := by decide +kernel
theorem dX7_sparks_22 : decode cX7_sparks 22 = .ok (.ireturn, 1) := by decide +kernel
theorem dX7_move_0 : decode cX7_move 0 = .ok (.iload_n 1, 1) := by decide +kernel
theorem dX7_move_1 : decode cX7_move 1 = .ok (.invokestatic 225, 3) := by decide +kernel
theorem dX7_move_4 : decode cX7_move 4 = .ok (.ifCond .eq 10, 3) := by decide +kernel
theorem dX7_move_7 : decode cX7_move 7 = .ok (.iload_n 3, 1) := by decide +kernel
theorem dX7_move_8 : decode cX7_move 8 = .ok (.invokestatic 225, 3) := by decide +kernel
theorem dX7_move_11 : decode cX7_move 11 = .ok (.ifCond .ne 10, 3) := by decide +kernel
theorem dX7_move_21 : decode cX7_move 21 = .ok (.aload_n 0, 1) := by decide +kernel
theorem dX7_move_22 : decode cX7_move 22 = .ok (.getfield 51, 3) := by decide +kernel
theorem dX7_move_25 : decode cX7_move 25 = .ok (.iload_n 1, 1) := by decide +kernel
theorem dX7_move_26 : decode cX7_move 26 = .ok (.aaload, 1) := by decide +kernel
theorem dX7_move_27 : decode cX7_move 27 = .ok (.astore 6, 2) := by decide +kernel
theorem dX7_move_29 : decode cX7_move 29 = .ok (.aload_n 0, 1) := by decide +kernel
theorem dX7_move_30 : decode cX7_move 30 = .ok (.getfield 51, 3) := by decide +kernel
theorem dX7_move_33 : decode cX7_move 33 = .ok (.iload_n 3, 1) := by decide +kernel
theorem dX7_move_34 : decode cX7_move 34 = .ok (.aaload, 1) := by decide +kernel
theorem dX7_move_35 : decode cX7_move 35 = .ok (.astore 7, 2) := by decide +kernel
theorem dX7_move_37 : decode cX7_move 37 = .ok (.aload 6, 2) := by decide +kernel
theorem dX7_move_39 : decode cX7_move 39 = .ok (.invokevirtual 228, 3) := by decide +kernel
theorem dX7_move_42 : decode cX7_move 42 = .ok (.ifCond .ne 11, 3) := by decide +kernel
theorem dX7_move_53 : decode cX7_move 53 = .ok (.aload_n 0, 1) := by decide +kernel
theorem dX7_move_54 : decode cX7_move 54 = .ok (.ldc 197, 2) := by decide +kernel
theorem dX7_move_56 : decode cX7_move 56 = .ok (.invokevirtual 69, 3) := by decide +kernel
theorem dX7_move_59 : decode cX7_move 59 = .ok (.ireturn, 1) := by decide +kernel
theorem dX7_move_14 : decode cX7_move 14 = .ok (.aload_n 0, 1) := by decide +kernel
theorem dX7_move_15 : decode cX7_move 15 = .ok (.ldc 68, 2) := by decide +kernel
theorem dX7_move_17 : decode cX7_move 17 = .ok (.invokevirtual 69, 3) := by decide +kernel
theorem dX7_move_20 : decode cX7_move 20 = .ok (.ireturn, 1) := by decide +kernel
theorem dX3_lay_0 : decode cX3_lay 0 = .ok (.aload_n 0, 1) := by decide +kernel
theorem dX3_lay_1 : decode cX3_lay 1 = .ok (.iload_n 1, 1) := by decide +kernel
theorem dX3_lay_2 : decode cX3_lay 2 = .ok (.putfield 15, 3) := by decide +kernel
theorem dX3_lay_5 : decode cX3_lay 5 = .ok (.aload_n 0, 1) := by decide +kernel
theorem dX3_lay_6 : decode cX3_lay 6 = .ok (.iload_n 2, 1) := by decide +kernel
theorem dX3_lay_7 : decode cX3_lay 7 = .ok (.putfield 19, 3) := by decide +kernel
theorem dX3_lay_10 : decode cX3_lay 10 = .ok (.iconst 0, 1) := by decide +kernel
theorem dX3_lay_11 : decode cX3_lay 11 = .ok (.istore_n 3, 1) := by decide +kernel
theorem dX3_lay_12 : decode cX3_lay 12 = .ok (.iload_n 3, 1) := by decide +kernel
theorem dX3_lay_13 : decode cX3_lay 13 = .ok (.bipush 40, 2) := by decide +kernel
theorem dX3_lay_15 : decode cX3_lay 15 = .ok (.if_icmp .ge 16, 3) := by decide +kernel
theorem dX3_lay_31 : decode cX3_lay 31 = .ok (.return_, 1) := by decide +kernel
theorem dX3_lay_18 : decode cX3_lay 18 = .ok (.aload_n 0, 1) := by decide +kernel
theorem dX3_lay_19 : decode cX3_lay 19 = .ok (.getfield 9, 3) := by decide +kernel
theorem dX3_lay_22 : decode cX3_lay 22 = .ok (.iload_n 3, 1) := by decide +kernel
theorem dX3_lay_23 : decode cX3_lay 23 = .ok (.iconst 0, 1) := by decide +kernel
theorem dX3_lay_24 : decode cX3_lay 24 = .ok (.iastore, 1) := by decide +kernel
theorem dX3_lay_25 : decode cX3_lay 25 = .ok (.iinc 3 1, 3) := by decide +kernel
theorem dX3_lay_28 : decode cX3_lay 28 = .ok (.goto (-16), 3) := by decide +kernel
theorem dX7_sheet_0 : decode cX7_sheet 0 = .ok (.iload_n 1, 1) := by decide +kernel
theorem dX7_sheet_1 : decode cX7_sheet 1 = .ok (.invokestatic 225, 3) := by decide +kernel
theorem dX7_sheet_4 : decode cX7_sheet 4 = .ok (.ifCond .eq 25, 3) := by decide +kernel
theorem dX7_sheet_7 : decode cX7_sheet 7 = .ok (.iload_n 2, 1) := by decide +kernel
theorem dX7_sheet_8 : decode cX7_sheet 8 = .ok (.ifCond .eq 28, 3) := by decide +kernel
theorem dX7_sheet_36 : decode cX7_sheet 36 = .ok (.iload_n 2, 1) := by decide +kernel
theorem dX7_sheet_37 : decode cX7_sheet 37 = .ok (.ifCond .eq 14, 3) := by decide +kernel
theorem dX7_sheet_51 : decode cX7_sheet 51 = .ok (.iload_n 2, 1) := by decide +kernel
theorem dX7_sheet_52 : decode cX7_sheet 52 = .ok (.ifCond .eq 16, 3) := by decide +kernel
theorem dX7_sheet_68 : decode cX7_sheet 68 = .ok (.aload_n 0, 1) := by decide +kernel
theorem dX7_sheet_69 : decode cX7_sheet 69 = .ok (.getfield 51, 3) := by decide +kernel
theorem dX7_sheet_72 : decode cX7_sheet 72 = .ok (.iload_n 1, 1) := by decide +kernel
theorem dX7_sheet_73 : decode cX7_sheet 73 = .ok (.aaload, 1) := by decide +kernel
theorem dX7_sheet_74 : decode cX7_sheet 74 = .ok (.iload_n 2, 1) := by decide +kernel
theorem dX7_sheet_75 : decode cX7_sheet 75 = .ok (.iload_n 2, 1) := by decide +kernel
theorem dX7_sheet_76 : decode cX7_sheet 76 = .ok (.ifCond .ne 7, 3) := by decide +kernel
theorem dX7_sheet_79 : decode cX7_sheet 79 = .ok (.iconst 0, 1) := by decide +kernel
theorem dX7_sheet_80 : decode cX7_sheet 80 = .ok (.goto 4, 3) := by decide +kernel
theorem dX7_sheet_84 : decode cX7_sheet 84 = .ok (.invokevirtual 271, 3) := by decide +kernel
theorem dX7_sheet_87 : decode cX7_sheet 87 = .ok (.iconst 1, 1) := by decide +kernel
theorem dX7_sheet_88 : decode cX7_sheet 88 = .ok (.ireturn, 1) := by decide +kernel
theorem dX7_sheet_11 : decode cX7_sheet 11 = .ok (.iload_n 2, 1) := by decide +kernel
theorem dX7_sheet_12 : decode cX7_sheet 12 = .ok (.bipush 8, 2) := by decide +kernel
theorem dX7_sheet_14 : decode cX7_sheet 14 = .ok (.if_icmp .eq 22, 3) := by decide +kernel
theorem dX7_sheet_40 : decode cX7_sheet 40 = .ok (.iload_n 3, 1) := by decide +kernel
theorem dX7_sheet_41 : decode cX7_sheet 41 = .ok (.ifCond .ge 10, 3) := by decide +kernel
theorem dX7_sheet_55 : decode cX7_sheet 55 = .ok (.iload_n 3, 1) := by decide +kernel
theorem dX7_sheet_56 : decode cX7_sheet 56 = .ok (.bipush 40, 2) := by decide +kernel
theorem dX7_sheet_58 : decode cX7_sheet 58 = .ok (.if_icmp .le 10, 3) := by decide +kernel
theorem dX7_sheet_83 : decode cX7_sheet 83 = .ok (.iload_n 3, 1) := by decide +kernel
theorem dX7_sheet_61 : decode cX7_sheet 61 = .ok (.aload_n 0, 1) := by decide +kernel
theorem dX7_sheet_62 : decode cX7_sheet 62 = .ok (.ldc 68, 2) := by decide +kernel
theorem dX7_sheet_64 : decode cX7_sheet 64 = .ok (.invokevirtual 69, 3) := by decide +kernel
theorem dX7_sheet_67 : decode cX7_sheet 67 = .ok (.ireturn, 1) := by decide +kernel
theorem dX7_sheet_44 : decode cX7_sheet 44 = .ok (.aload_n 0, 1) := by decide +kernel
theorem dX7_sheet_45 : decode cX7_sheet 45 = .ok (.ldc 177, 2) := by decide +kernel
theorem dX7_sheet_47 : decode cX7_sheet 47 = .ok (.invokevirtual 69, 3) := by decide +kernel
theorem dX7_sheet_50 : decode cX7_sheet 50 = .ok (.ireturn, 1) := by decide +kernel
theorem dX7_sheet_17 : decode cX7_sheet 17 = .ok (.iload_n 2, 1) := by decide +kernel
theorem dX7_sheet_18 : decode cX7_sheet 18 = .ok (.bipush 16, 2) := by decide +kernel
theorem dX7_sheet_20 : decode cX7_sheet 20 = .ok (.if_icmp .eq 16, 3) := by decide +kernel
theorem dX7_sheet_23 : decode cX7_sheet 23 = .ok (.iload_n 2, 1) := by decide +kernel
theorem dX7_sheet_24 : decode cX7_sheet 24 = .ok (.bipush 32, 2) := by decide +kernel
theorem dX7_sheet_26 : decode cX7_sheet 26 = .ok (.if_icmp .eq 10, 3) := by decide +kernel
theorem dX7_sheet_29 : decode cX7_sheet 29 = .ok (.aload_n 0, 1) := by decide +kernel
theorem dX7_sheet_30 : decode cX7_sheet 30 = .ok (.ldc 68, 2) := by decide +kernel
theorem dX7_sheet_32 : decode cX7_sheet 32 = .ok (.invokevirtual 69, 3) := by decide +kernel
theorem dX7_sheet_35 : decode cX7_sheet 35 = .ok (.ireturn, 1) := by decide +kernel
theorem dX7_feed_0 : decode cX7_feed 0 = .ok (.iload_n 3, 1) := by decide +kernel
theorem dX7_feed_1 : decode cX7_feed 1 = .ok (.iconst 1, 1) := by decide +kernel
theorem dX7_feed_2 : decode cX7_feed 2 = .ok (.bipush 8, 2) := by decide +kernel
theorem dX7_feed_4 : decode cX7_feed 4 = .ok (.invokestatic 60, 3) := by decide +kernel
theorem dX7_feed_7 : decode cX7_feed 7 = .ok (.ifCond .ne 10, 3) := by decide +kernel
theorem dX7_feed_17 : decode cX7_feed 17 = .ok (.aload_n 0, 1) := by decide +kernel
theorem dX7_feed_18 : decode cX7_feed 18 = .ok (.getfield 12, 3) := by decide +kernel
theorem dX7_feed_21 : decode cX7_feed 21 = .ok (.getfield 147, 3) := by decide +kernel
theorem dX7_feed_24 : decode cX7_feed 24 = .ok (.iload_n 3, 1) := by decide +kernel
theorem dX7_feed_25 : decode cX7_feed 25 = .ok (.iadd, 1) := by decide +kernel
theorem dX7_feed_26 : decode cX7_feed 26 = .ok (.bipush 50, 2) := by decide +kernel
theorem dX7_feed_28 : decode cX7_feed 28 = .ok (.if_icmp .le 10, 3) := by decide +kernel
theorem dX7_feed_38 : decode cX7_feed 38 = .ok (.iconst 0, 1) := by decide +kernel
theorem dX7_feed_39 : decode cX7_feed 39 = .ok (.istore 4, 2) := by decide +kernel
theorem dX7_feed_41 : decode cX7_feed 41 = .ok (.iload 4, 2) := by decide +kernel
theorem dX7_feed_43 : decode cX7_feed 43 = .ok (.iload_n 3, 1) := by decide +kernel
theorem dX7_feed_44 : decode cX7_feed 44 = .ok (.if_icmp .ge 39, 3) := by decide +kernel
theorem dX7_feed_83 : decode cX7_feed 83 = .ok (.aload_n 0, 1) := by decide +kernel
theorem dX7_feed_84 : decode cX7_feed 84 = .ok (.getfield 12, 3) := by decide +kernel
theorem dX7_feed_87 : decode cX7_feed 87 = .ok (.dup, 1) := by decide +kernel
theorem dX7_feed_88 : decode cX7_feed 88 = .ok (.getfield 147, 3) := by decide +kernel
theorem dX7_feed_91 : decode cX7_feed 91 = .ok (.iload_n 3, 1) := by decide +kernel
theorem dX7_feed_92 : decode cX7_feed 92 = .ok (.iadd, 1) := by decide +kernel
theorem dX7_feed_93 : decode cX7_feed 93 = .ok (.putfield 147, 3) := by decide +kernel
theorem dX7_feed_96 : decode cX7_feed 96 = .ok (.aload_n 0, 1) := by decide +kernel
theorem dX7_feed_97 : decode cX7_feed 97 = .ok (.getfield 12, 3) := by decide +kernel
theorem dX7_feed_100 : decode cX7_feed 100 = .ok (.getfield 147, 3) := by decide +kernel
theorem dX7_feed_103 : decode cX7_feed 103 = .ok (.ireturn, 1) := by decide +kernel
theorem dX7_feed_47 : decode cX7_feed 47 = .ok (.aload_n 0, 1) := by decide +kernel
theorem dX7_feed_48 : decode cX7_feed 48 = .ok (.getfield 12, 3) := by decide +kernel
theorem dX7_feed_51 : decode cX7_feed 51 = .ok (.getfield 150, 3) := by decide +kernel
theorem dX7_feed_54 : decode cX7_feed 54 = .ok (.aload_n 0, 1) := by decide +kernel
theorem dX7_feed_55 : decode cX7_feed 55 = .ok (.getfield 12, 3) := by decide +kernel
theorem dX7_feed_58 : decode cX7_feed 58 = .ok (.getfield 147, 3) := by decide +kernel
theorem dX7_feed_61 : decode cX7_feed 61 = .ok (.iload 4, 2) := by decide +kernel
theorem dX7_feed_63 : decode cX7_feed 63 = .ok (.iadd, 1) := by decide +kernel
theorem dX7_feed_64 : decode cX7_feed 64 = .ok (.lload_n 1, 1) := by decide +kernel
theorem dX7_feed_65 : decode cX7_feed 65 = .ok (.bipush 8, 2) := by decide +kernel
theorem dX7_feed_67 : decode cX7_feed 67 = .ok (.iload 4, 2) := by decide +kernel
theorem dX7_feed_69 : decode cX7_feed 69 = .ok (.imul, 1) := by decide +kernel
theorem dX7_feed_70 : decode cX7_feed 70 = .ok (.lushr, 1) := by decide +kernel
theorem dX7_feed_71 : decode cX7_feed 71 = .ok (.l2i, 1) := by decide +kernel
theorem dX7_feed_72 : decode cX7_feed 72 = .ok (.sipush 255, 3) := by decide +kernel
theorem dX7_feed_75 : decode cX7_feed 75 = .ok (.iand, 1) := by decide +kernel
theorem dX7_feed_76 : decode cX7_feed 76 = .ok (.iastore, 1) := by decide +kernel
theorem dX7_feed_77 : decode cX7_feed 77 = .ok (.iinc 4 1, 3) := by decide +kernel
theorem dX7_feed_80 : decode cX7_feed 80 = .ok (.goto (-39), 3) := by decide +kernel
theorem dX7_feed_10 : decode cX7_feed 10 = .ok (.aload_n 0, 1) := by decide +kernel
theorem dX7_feed_11 : decode cX7_feed 11 = .ok (.ldc 68, 2) := by decide +kernel
theorem dX7_feed_13 : decode cX7_feed 13 = .ok (.invokevirtual 69, 3) := by decide +kernel
theorem dX7_feed_16 : decode cX7_feed 16 = .ok (.ireturn, 1) := by decide +kernel
theorem dX6_textOf_0 : decode cX6_textOf 0 = .ok (.iload_n 1, 1) := by decide +kernel
theorem dX6_textOf_1 : decode cX6_textOf 1 = .ok (.ifCond .ne 10, 3) := by decide +kernel
theorem dX6_textOf_11 : decode cX6_textOf 11 = .ok (.aload_n 0, 1) := by decide +kernel
theorem dX6_textOf_12 : decode cX6_textOf 12 = .ok (.getfield 18, 3) := by decide +kernel
theorem dX6_textOf_15 : decode cX6_textOf 15 = .ok (.areturn, 1) := by decide +kernel
theorem dX6_textOf_4 : decode cX6_textOf 4 = .ok (.aload_n 0, 1) := by decide +kernel
theorem dX6_textOf_5 : decode cX6_textOf 5 = .ok (.getfield 12, 3) := by decide +kernel
theorem dX6_textOf_8 : decode cX6_textOf 8 = .ok (.goto 7, 3) := by decide +kernel
theorem dX4_gives_0 : decode cX4_gives 0 = .ok (.aload_n 0, 1) := by decide +kernel
theorem dX4_gives_1 : decode cX4_gives 1 = .ok (.getfield 28, 3) := by decide +kernel
theorem dX4_gives_4 : decode cX4_gives 4 = .ok (.ifCond .le 13, 3) := by decide +kernel
theorem dX4_gives_17 : decode cX4_gives 17 = .ok (.aload_n 0, 1) := by decide +kernel
theorem dX4_gives_18 : decode cX4_gives 18 = .ok (.getfield 24, 3) := by decide +kernel
theorem dX4_gives_21 : decode cX4_gives 21 = .ok (.ifCond .ne 8, 3) := by decide +kernel
theorem dX4_gives_24 : decode cX4_gives 24 = .ok (.bipush 20, 2) := by decide +kernel
theorem dX4_gives_26 : decode cX4_gives 26 = .ok (.goto 10, 3) := by decide +kernel
theorem dX4_gives_36 : decode cX4_gives 36 = .ok (.istore 4, 2) := by decide +kernel
theorem dX4_gives_38 : decode cX4_gives 38 = .ok (.iconst 0, 1) := by decide +kernel
theorem dX4_gives_39 : decode cX4_gives 39 = .ok (.bipush 99, 2) := by decide +kernel
theorem dX4_gives_41 : decode cX4_gives 41 = .ok (.iload 4, 2) := by decide +kernel
theorem dX4_gives_43 : decode cX4_gives 43 = .ok (.invokestatic 41, 3) := by decide +kernel
theorem dX4_gives_46 : decode cX4_gives 46 = .ok (.invokestatic 47, 3) := by decide +kernel
theorem dX4_gives_49 : decode cX4_gives 49 = .ok (.ireturn, 1) := by decide +kernel
theorem dX4_gives_29 : decode cX4_gives 29 = .ok (.bipush 9, 2) := by decide +kernel
theorem dX4_gives_31 : decode cX4_gives 31 = .ok (.iload_n 1, 1) := by decide +kernel
theorem dX4_gives_32 : decode cX4_gives 32 = .ok (.bipush 11, 2) := by decide +kernel
theorem dX4_gives_34 : decode cX4_gives 34 = .ok (.idiv, 1) := by decide +kernel
theorem dX4_gives_35 : decode cX4_gives 35 = .ok (.isub, 1) := by decide +kernel
theorem dX7_law_0 : decode cX7_law 0 = .ok (.iload_n 1, 1) := by decide +kernel
theorem dX7_law_1 : decode cX7_law 1 = .ok (.iconst 0, 1) := by decide +kernel
theorem dX7_law_2 : decode cX7_law 2 = .ok (.iconst 1, 1) := by decide +kernel
theorem dX7_law_3 : decode cX7_law 3 = .ok (.invokestatic 60, 3) := by decide +kernel
theorem dX7_law_6 : decode cX7_law 6 = .ok (.ifCond .ne 10, 3) := by decide +kernel
theorem dX7_law_16 : decode cX7_law 16 = .ok (.aload_n 0, 1) := by decide +kernel
theorem dX7_law_17 : decode cX7_law 17 = .ok (.getfield 12, 3) := by decide +kernel
theorem dX7_law_20 : decode cX7_law 20 = .ok (.iload_n 1, 1) := by decide +kernel
theorem dX7_law_21 : decode cX7_law 21 = .ok (.invokevirtual 157, 3) := by decide +kernel
theorem dX7_law_24 : decode cX7_law 24 = .ok (.iload_n 2, 1) := by decide +kernel
theorem dX7_law_25 : decode cX7_law 25 = .ok (.iload_n 3, 1) := by decide +kernel
theorem dX7_law_26 : decode cX7_law 26 = .ok (.iload 4, 2) := by decide +kernel
theorem dX7_law_28 : decode cX7_law 28 = .ok (.invokevirtual 170, 3) := by decide +kernel
theorem dX7_law_31 : decode cX7_law 31 = .ok (.ireturn, 1) := by decide +kernel
theorem dX7_law_9 : decode cX7_law 9 = .ok (.aload_n 0, 1) := by decide +kernel
theorem dX7_law_10 : decode cX7_law 10 = .ok (.ldc 68, 2) := by decide +kernel
theorem dX7_law_12 : decode cX7_law 12 = .ok (.invokevirtual 69, 3) := by decide +kernel
theorem dX7_law_15 : decode cX7_law 15 = .ok (.ireturn, 1) := by decide +kernel
theorem dX2_next_0 : decode cX2_next 0 = .ok (.aload_n 0, 1) := by decide +kernel
theorem dX2_next_1 : decode cX2_next 1 = .ok (.getfield 38, 3) := by decide +kernel
theorem dX2_next_4 : decode cX2_next 4 = .ok (.aload_n 0, 1) := by decide +kernel
theorem dX2_next_5 : decode cX2_next 5 = .ok (.getfield 28, 3) := by decide +kernel
theorem dX2_next_8 : decode cX2_next 8 = .ok (.if_icmp .ge 15, 3) := by decide +kernel
theorem dX2_next_23 : decode cX2_next 23 = .ok (.iconst (-1), 1) := by decide +kernel
theorem dX2_next_24 : decode cX2_next 24 = .ok (.ireturn, 1) := by decide +kernel
theorem dX2_isDigit_0 : decode cX2_isDigit 0 = .ok (.iload_n 0, 1) := by decide +kernel
theorem dX2_isDigit_1 : decode cX2_isDigit 1 = .ok (.bipush 48, 2) := by decide +kernel
theorem dX2_isDigit_3 : decode cX2_isDigit 3 = .ok (.bipush 57, 2) := by decide +kernel
theorem dX2_isDigit_5 : decode cX2_isDigit 5 = .ok (.invokestatic 88, 3) := by decide +kernel
theorem dX2_isDigit_8 : decode cX2_isDigit 8 = .ok (.ireturn, 1) := by decide +kernel
theorem dX2_nameOf_0 : decode cX2_nameOf 0 = .ok (.iload_n 1, 1) := by decide +kernel
theorem dX2_nameOf_1 : decode cX2_nameOf 1 = .ok (.bipush 101, 2) := by decide +kernel
theorem dX2_nameOf_3 : decode cX2_nameOf 3 = .ok (.if_icmp .ne 5, 3) := by decide +kernel
theorem dX2_nameOf_8 : decode cX2_nameOf 8 = .ok (.iload_n 1, 1) := by decide +kernel
theorem dX2_nameOf_9 : decode cX2_nameOf 9 = .ok (.bipush 97, 2) := by decide +kernel
theorem dX2_nameOf_11 : decode cX2_nameOf 11 = .ok (.if_icmp .ne 5, 3) := by decide +kernel
theorem dX2_nameOf_16 : decode cX2_nameOf 16 = .ok (.iload_n 1, 1) := by decide +kernel
theorem dX2_nameOf_17 : decode cX2_nameOf 17 = .ok (.aload_n 0, 1) := by decide +kernel
theorem dX2_nameOf_18 : decode cX2_nameOf 18 = .ok (.getfield 12, 3) := by decide +kernel
theorem dX2_nameOf_21 : decode cX2_nameOf 21 = .ok (.getfield 85, 3) := by decide +kernel
theorem dX2_nameOf_24 : decode cX2_nameOf 24 = .ok (.ifCond .ne 8, 3) := by decide +kernel
theorem dX2_nameOf_32 : decode cX2_nameOf 32 = .ok (.bipush 109, 2) := by decide +kernel
theorem dX2_nameOf_34 : decode cX2_nameOf 34 = .ok (.if_icmp .ne 7, 3) := by decide +kernel
theorem dX2_nameOf_41 : decode cX2_nameOf 41 = .ok (.iconst (-1), 1) := by decide +kernel
theorem dX2_nameOf_42 : decode cX2_nameOf 42 = .ok (.ireturn, 1) := by decide +kernel
theorem dX2_nameOf_27 : decode cX2_nameOf 27 = .ok (.bipush 100, 2) := by decide +kernel
theorem dX2_nameOf_29 : decode cX2_nameOf 29 = .ok (.goto 5, 3) := by decide +kernel
theorem dX2_stop_0 : decode cX2_stop 0 = .ok (.aload_n 0, 1) := by decide +kernel
theorem dX2_stop_1 : decode cX2_stop 1 = .ok (.getfield 41, 3) := by decide +kernel
theorem dX2_stop_4 : decode cX2_stop 4 = .ok (.ifCond .ge 11, 3) := by decide +kernel
theorem dX2_stop_7 : decode cX2_stop 7 = .ok (.aload_n 0, 1) := by decide +kernel
theorem dX2_stop_8 : decode cX2_stop 8 = .ok (.aload_n 0, 1) := by decide +kernel
theorem dX2_stop_9 : decode cX2_stop 9 = .ok (.getfield 38, 3) := by decide +kernel
theorem dX2_stop_12 : decode cX2_stop 12 = .ok (.putfield 41, 3) := by decide +kernel
theorem dX2_stop_15 : decode cX2_stop 15 = .ok (.iconst 0, 1) := by decide +kernel
theorem dX2_stop_16 : decode cX2_stop 16 = .ok (.ireturn, 1) := by decide +kernel
theorem dX2_readInnermost_0 : decode cX2_readInnermost 0 = .ok (.aload_n 0, 1) := by decide +kernel
theorem dX2_readInnermost_1 : decode cX2_readInnermost 1 = .ok (.invokevirtual 55, 3) := by decide +kernel
theorem dX2_readInnermost_4 : decode cX2_readInnermost 4 = .ok (.istore_n 2, 1) := by decide +kernel
theorem dX2_readInnermost_5 : decode cX2_readInnermost 5 = .ok (.iload_n 2, 1) := by decide +kernel
theorem dX2_readInnermost_6 : decode cX2_readInnermost 6 = .ok (.invokestatic 66, 3) := by decide +kernel
theorem dX2_readInnermost_9 : decode cX2_readInnermost 9 = .ok (.ifCond .eq 8, 3) := by decide +kernel
theorem dX2_readInnermost_17 : decode cX2_readInnermost 17 = .ok (.aload_n 0, 1) := by decide +kernel
theorem dX2_readInnermost_18 : decode cX2_readInnermost 18 = .ok (.iload_n 2, 1) := by decide +kernel
theorem dX2_readInnermost_19 : decode cX2_readInnermost 19 = .ok (.invokevirtual 73, 3) := by decide +kernel
theorem dX2_readInnermost_22 : decode cX2_readInnermost 22 = .ok (.ifCond .lt 29, 3) := by decide +kernel
theorem dX2_readInnermost_51 : decode cX2_readInnermost 51 = .ok (.iload_n 2, 1) := by decide +kernel
theorem dX2_readInnermost_52 : decode cX2_readInnermost 52 = .ok (.bipush 33, 2) := by decide +kernel
theorem dX2_readInnermost_54 : decode cX2_readInnermost 54 = .ok (.if_icmp .eq 9, 3) := by decide +kernel
theorem dX2_readInnermost_57 : decode cX2_readInnermost 57 = .ok (.iload_n 2, 1) := by decide +kernel
theorem dX2_readInnermost_58 : decode cX2_readInnermost 58 = .ok (.bipush 40, 2) := by decide +kernel
theorem dX2_readInnermost_60 : decode cX2_readInnermost 60 = .ok (.if_icmp .ne 42, 3) := by decide +kernel
theorem dX2_readInnermost_102 : decode cX2_readInnermost 102 = .ok (.aload_n 0, 1) := by decide +kernel
theorem dX2_readInnermost_103 : decode cX2_readInnermost 103 = .ok (.invokevirtual 82, 3) := by decide +kernel
theorem dX2_readInnermost_106 : decode cX2_readInnermost 106 = .ok (.ireturn, 1) := by decide +kernel
theorem dX2_readLevel_0 : decode cX2_readLevel 0 = .ok (.iload_n 1, 1) := by decide +kernel
theorem dX2_readLevel_1 : decode cX2_readLevel 1 = .ok (.iconst 5, 1) := by decide +kernel
theorem dX2_readLevel_2 : decode cX2_readLevel 2 = .ok (.if_icmp .lt 9, 3) := by decide +kernel
theorem dX2_readLevel_5 : decode cX2_readLevel 5 = .ok (.aload_n 0, 1) := by decide +kernel
theorem dX2_readLevel_6 : decode cX2_readLevel 6 = .ok (.iload_n 2, 1) := by decide +kernel
theorem dX2_readLevel_7 : decode cX2_readLevel 7 = .ok (.invokevirtual 51, 3) := by decide +kernel
theorem dX2_readLevel_10 : decode cX2_readLevel 10 = .ok (.ireturn, 1) := by decide +kernel
theorem dX2_readLevel_11 : decode cX2_readLevel 11 = .ok (.aload_n 0, 1) := by decide +kernel
theorem dX2_readLevel_12 : decode cX2_readLevel 12 = .ok (.iload_n 1, 1) := by decide +kernel
theorem dX2_readLevel_13 : decode cX2_readLevel 13 = .ok (.iconst 1, 1) := by decide +kernel
theorem dX2_readLevel_14 : decode cX2_readLevel 14 = .ok (.iadd, 1) := by decide +kernel
theorem dX2_readLevel_15 : decode cX2_readLevel 15 = .ok (.iload_n 2, 1) := by decide +kernel
theorem dX2_readLevel_16 : decode cX2_readLevel 16 = .ok (.invokevirtual 48, 3) := by decide +kernel
theorem dX2_readLevel_19 : decode cX2_readLevel 19 = .ok (.istore_n 3, 1) := by decide +kernel
theorem dX2_readLevel_20 : decode cX2_readLevel 20 = .ok (.iload_n 1, 1) := by decide +kernel
theorem dX2_readLevel_21 : decode cX2_readLevel 21 = .ok (.iconst 2, 1) := by decide +kernel
theorem dX2_readLevel_22 : decode cX2_readLevel 22 = .ok (.if_icmp .ne 7, 3) := by decide +kernel
theorem dX2_readLevel_29 : decode cX2_readLevel 29 = .ok (.bipush 50, 2) := by decide +kernel
theorem dX2_readLevel_31 : decode cX2_readLevel 31 = .ok (.istore 4, 2) := by decide +kernel
theorem dX2_readLevel_33 : decode cX2_readLevel 33 = .ok (.iconst 0, 1) := by decide +kernel
theorem dX2_readLevel_34 : decode cX2_readLevel 34 = .ok (.istore 5, 2) := by decide +kernel
theorem dX2_readLevel_36 : decode cX2_readLevel 36 = .ok (.iload 5, 2) := by decide +kernel
theorem dX2_readLevel_38 : decode cX2_readLevel 38 = .ok (.iload 4, 2) := by decide +kernel
theorem dX2_readLevel_40 : decode cX2_readLevel 40 = .ok (.if_icmp .ge 66, 3) := by decide +kernel
theorem dX2_readLevel_43 : decode cX2_readLevel 43 = .ok (.aload_n 0, 1) := by decide +kernel
theorem dX2_readLevel_44 : decode cX2_readLevel 44 = .ok (.getfield 41, 3) := by decide +kernel
theorem dX2_readLevel_47 : decode cX2_readLevel 47 = .ok (.ifCond .ge 59, 3) := by decide +kernel
theorem dX2_readLevel_106 : decode cX2_readLevel 106 = .ok (.iload_n 3, 1) := by decide +kernel
theorem dX2_readLevel_107 : decode cX2_readLevel 107 = .ok (.ireturn, 1) := by decide +kernel
theorem dX2_readLevel_25 : decode cX2_readLevel 25 = .ok (.iconst 1, 1) := by decide +kernel
theorem dX2_readLevel_26 : decode cX2_readLevel 26 = .ok (.goto 5, 3) := by decide +kernel
theorem dX4_clear_0 : decode cX4_clear 0 = .ok (.aload_n 0, 1) := by decide +kernel
theorem dX4_clear_1 : decode cX4_clear 1 = .ok (.iload_n 1, 1) := by decide +kernel
theorem dX4_clear_2 : decode cX4_clear 2 = .ok (.putfield 24, 3) := by decide +kernel
theorem dX4_clear_5 : decode cX4_clear 5 = .ok (.aload_n 0, 1) := by decide +kernel
theorem dX4_clear_6 : decode cX4_clear 6 = .ok (.iconst 0, 1) := by decide +kernel
theorem dX4_clear_7 : decode cX4_clear 7 = .ok (.putfield 28, 3) := by decide +kernel
theorem dX4_clear_10 : decode cX4_clear 10 = .ok (.return_, 1) := by decide +kernel
theorem dX2_read_0 : decode cX2_read 0 = .ok (.aload_n 0, 1) := by decide +kernel
theorem dX2_read_1 : decode cX2_read 1 = .ok (.iload_n 2, 1) := by decide +kernel
theorem dX2_read_2 : decode cX2_read 2 = .ok (.bipush 50, 2) := by decide +kernel
theorem dX2_read_4 : decode cX2_read 4 = .ok (.invokestatic 22, 3) := by decide +kernel
theorem dX2_read_7 : decode cX2_read 7 = .ok (.putfield 28, 3) := by decide +kernel
theorem dX2_read_10 : decode cX2_read 10 = .ok (.aload_n 1, 1) := by decide +kernel
theorem dX2_read_11 : decode cX2_read 11 = .ok (.iconst 0, 1) := by decide +kernel
theorem dX2_read_12 : decode cX2_read 12 = .ok (.aload_n 0, 1) := by decide +kernel
theorem dX2_read_13 : decode cX2_read 13 = .ok (.getfield 18, 3) := by decide +kernel
theorem dX2_read_16 : decode cX2_read 16 = .ok (.iconst 0, 1) := by decide +kernel
theorem dX2_read_17 : decode cX2_read 17 = .ok (.aload_n 0, 1) := by decide +kernel
theorem dX2_read_18 : decode cX2_read 18 = .ok (.getfield 28, 3) := by decide +kernel
theorem dX2_read_21 : decode cX2_read 21 = .ok (.invokestatic 32, 3) := by decide +kernel
theorem dX2_read_24 : decode cX2_read 24 = .ok (.aload_n 0, 1) := by decide +kernel
theorem dX2_read_25 : decode cX2_read 25 = .ok (.iconst 0, 1) := by decide +kernel
theorem dX2_read_26 : decode cX2_read 26 = .ok (.putfield 38, 3) := by decide +kernel
theorem dX2_read_29 : decode cX2_read 29 = .ok (.aload_n 0, 1) := by decide +kernel
theorem dX2_read_30 : decode cX2_read 30 = .ok (.iconst (-1), 1) := by decide +kernel
theorem dX2_read_31 : decode cX2_read 31 = .ok (.putfield 41, 3) := by decide +kernel
theorem dX2_read_34 : decode cX2_read 34 = .ok (.aload_n 0, 1) := by decide +kernel
theorem dX2_read_35 : decode cX2_read 35 = .ok (.getfield 12, 3) := by decide +kernel
theorem dX2_read_38 : decode cX2_read 38 = .ok (.iload_n 3, 1) := by decide +kernel
theorem dX2_read_39 : decode cX2_read 39 = .ok (.invokevirtual 44, 3) := by decide +kernel
theorem dX2_read_42 : decode cX2_read 42 = .ok (.aload_n 0, 1) := by decide +kernel
theorem dX2_read_43 : decode cX2_read 43 = .ok (.iconst 0, 1) := by decide +kernel
theorem dX2_read_44 : decode cX2_read 44 = .ok (.iconst 0, 1) := by decide +kernel
theorem dX2_read_45 : decode cX2_read 45 = .ok (.invokevirtual 48, 3) := by decide +kernel
theorem dX2_read_48 : decode cX2_read 48 = .ok (.pop, 1) := by decide +kernel
theorem dX2_read_49 : decode cX2_read 49 = .ok (.aload_n 0, 1) := by decide +kernel
theorem dX2_read_50 : decode cX2_read 50 = .ok (.getfield 41, 3) := by decide +kernel
theorem dX2_read_53 : decode cX2_read 53 = .ok (.ifCond .ge 22, 3) := by decide +kernel
theorem dX2_read_75 : decode cX2_read 75 = .ok (.aload_n 0, 1) := by decide +kernel
theorem dX2_read_76 : decode cX2_read 76 = .ok (.getfield 41, 3) := by decide +kernel
theorem dX2_read_79 : decode cX2_read 79 = .ok (.ireturn, 1) := by decide +kernel
theorem dX7_text_0 : decode cX7_text 0 = .ok (.iload_n 1, 1) := by decide +kernel
theorem dX7_text_1 : decode cX7_text 1 = .ok (.iconst 0, 1) := by decide +kernel
theorem dX7_text_2 : decode cX7_text 2 = .ok (.iconst 1, 1) := by decide +kernel
theorem dX7_text_3 : decode cX7_text 3 = .ok (.invokestatic 60, 3) := by decide +kernel
theorem dX7_text_6 : decode cX7_text 6 = .ok (.ifCond .ne 10, 3) := by decide +kernel
theorem dX7_text_16 : decode cX7_text 16 = .ok (.aload_n 0, 1) := by decide +kernel
theorem dX7_text_17 : decode cX7_text 17 = .ok (.getfield 38, 3) := by decide +kernel
theorem dX7_text_20 : decode cX7_text 20 = .ok (.aload_n 0, 1) := by decide +kernel
theorem dX7_text_21 : decode cX7_text 21 = .ok (.getfield 12, 3) := by decide +kernel
theorem dX7_text_24 : decode cX7_text 24 = .ok (.getfield 150, 3) := by decide +kernel
theorem dX7_text_27 : decode cX7_text 27 = .ok (.aload_n 0, 1) := by decide +kernel
theorem dX7_text_28 : decode cX7_text 28 = .ok (.getfield 12, 3) := by decide +kernel
theorem dX7_text_31 : decode cX7_text 31 = .ok (.getfield 147, 3) := by decide +kernel
theorem dX7_text_34 : decode cX7_text 34 = .ok (.iload_n 1, 1) := by decide +kernel
theorem dX7_text_35 : decode cX7_text 35 = .ok (.invokevirtual 153, 3) := by decide +kernel
theorem dX7_text_38 : decode cX7_text 38 = .ok (.istore_n 2, 1) := by decide +kernel
theorem dX7_text_39 : decode cX7_text 39 = .ok (.aload_n 0, 1) := by decide +kernel
theorem dX7_text_40 : decode cX7_text 40 = .ok (.getfield 12, 3) := by decide +kernel
theorem dX7_text_43 : decode cX7_text 43 = .ok (.iconst 0, 1) := by decide +kernel
theorem dX7_text_44 : decode cX7_text 44 = .ok (.putfield 147, 3) := by decide +kernel
theorem dX7_text_47 : decode cX7_text 47 = .ok (.iload_n 2, 1) := by decide +kernel
theorem dX7_text_48 : decode cX7_text 48 = .ok (.ifCond .lt 8, 3) := by decide +kernel
theorem dX7_text_51 : decode cX7_text 51 = .ok (.bipush (-10), 2) := by decide +kernel
theorem dX7_text_53 : decode cX7_text 53 = .ok (.iload_n 2, 1) := by decide +kernel
theorem dX7_text_54 : decode cX7_text 54 = .ok (.isub, 1) := by decide +kernel
theorem dX7_text_55 : decode cX7_text 55 = .ok (.ireturn, 1) := by decide +kernel
theorem dX7_text_9 : decode cX7_text 9 = .ok (.aload_n 0, 1) := by decide +kernel
theorem dX7_text_10 : decode cX7_text 10 = .ok (.ldc 68, 2) := by decide +kernel
theorem dX7_text_12 : decode cX7_text 12 = .ok (.invokevirtual 69, 3) := by decide +kernel
theorem dX7_text_15 : decode cX7_text 15 = .ok (.ireturn, 1) := by decide +kernel
theorem dX7_seed_0 : decode cX7_seed 0 = .ok (.aload_n 0, 1) := by decide +kernel
theorem dX7_seed_1 : decode cX7_seed 1 = .ok (.getfield 12, 3) := by decide +kernel
theorem dX7_seed_4 : decode cX7_seed 4 = .ok (.getfield 255, 3) := by decide +kernel
theorem dX7_seed_7 : decode cX7_seed 7 = .ok (.istore_n 2, 1) := by decide +kernel
theorem dX7_seed_8 : decode cX7_seed 8 = .ok (.aload_n 0, 1) := by decide +kernel
theorem dX7_seed_9 : decode cX7_seed 9 = .ok (.getfield 12, 3) := by decide +kernel
theorem dX7_seed_12 : decode cX7_seed 12 = .ok (.iload_n 1, 1) := by decide +kernel
theorem dX7_seed_13 : decode cX7_seed 13 = .ok (.putfield 255, 3) := by decide +kernel
theorem dX7_seed_16 : decode cX7_seed 16 = .ok (.iload_n 2, 1) := by decide +kernel
theorem dX7_seed_17 : decode cX7_seed 17 = .ok (.ireturn, 1) := by decide +kernel
theorem dX7_trace_0 : decode cX7_trace 0 = .ok (.iload_n 1, 1) := by decide +kernel
theorem dX7_trace_1 : decode cX7_trace 1 = .ok (.iconst 0, 1) := by decide +kernel
theorem dX7_trace_2 : decode cX7_trace 2 = .ok (.aload_n 0, 1) := by decide +kernel
theorem dX7_trace_3 : decode cX7_trace 3 = .ok (.getfield 45, 3) := by decide +kernel
theorem dX7_trace_6 : decode cX7_trace 6 = .ok (.getfield 265, 3) := by decide +kernel
theorem dX7_trace_9 : decode cX7_trace 9 = .ok (.iconst 1, 1) := by decide +kernel
theorem dX7_trace_10 : decode cX7_trace 10 = .ok (.isub, 1) := by decide +kernel
theorem dX7_trace_11 : decode cX7_trace 11 = .ok (.invokestatic 60, 3) := by decide +kernel
theorem dX7_trace_14 : decode cX7_trace 14 = .ok (.ifCond .eq 15, 3) := by decide +kernel
theorem dX7_trace_29 : decode cX7_trace 29 = .ok (.aload_n 0, 1) := by decide +kernel
theorem dX7_trace_30 : decode cX7_trace 30 = .ok (.ldc 197, 2) := by decide +kernel
theorem dX7_trace_32 : decode cX7_trace 32 = .ok (.invokevirtual 69, 3) := by decide +kernel
theorem dX7_trace_35 : decode cX7_trace 35 = .ok (.ireturn, 1) := by decide +kernel
theorem dX7_restore_0 : decode cX7_restore 0 = .ok (.aload_n 0, 1) := by decide +kernel
theorem dX7_restore_1 : decode cX7_restore 1 = .ok (.getfield 301, 3) := by decide +kernel
theorem dX7_restore_4 : decode cX7_restore 4 = .ok (.ifCond .ne 10, 3) := by decide +kernel
theorem dX7_restore_7 : decode cX7_restore 7 = .ok (.aload_n 0, 1) := by decide +kernel
theorem dX7_restore_8 : decode cX7_restore 8 = .ok (.ldc 197, 2) := by decide +kernel
theorem dX7_restore_10 : decode cX7_restore 10 = .ok (.invokevirtual 69, 3) := by decide +kernel
theorem dX7_restore_13 : decode cX7_restore 13 = .ok (.ireturn, 1) := by decide +kernel
theorem dX7_tell_0 : decode cX7_tell 0 = .ok (.aload_n 0, 1) := by decide +kernel
theorem dX7_tell_1 : decode cX7_tell 1 = .ok (.getfield 12, 3) := by decide +kernel
theorem dX7_tell_4 : decode cX7_tell 4 = .ok (.getfield 304, 3) := by decide +kernel
theorem dX7_tell_7 : decode cX7_tell 7 = .ok (.bipush 20, 2) := by decide +kernel
theorem dX7_tell_9 : decode cX7_tell 9 = .ok (.if_icmp .lt 10, 3) := by decide +kernel
theorem dX7_tell_19 : decode cX7_tell 19 = .ok (.aload_n 0, 1) := by decide +kernel
theorem dX7_tell_20 : decode cX7_tell 20 = .ok (.getfield 12, 3) := by decide +kernel
theorem dX7_tell_23 : decode cX7_tell 23 = .ok (.getfield 307, 3) := by decide +kernel
theorem dX7_tell_26 : decode cX7_tell 26 = .ok (.aload_n 0, 1) := by decide +kernel
theorem dX7_tell_27 : decode cX7_tell 27 = .ok (.getfield 12, 3) := by decide +kernel
theorem dX7_tell_30 : decode cX7_tell 30 = .ok (.getfield 304, 3) := by decide +kernel
theorem dX7_tell_33 : decode cX7_tell 33 = .ok (.iload_n 1, 1) := by decide +kernel
theorem dX7_tell_34 : decode cX7_tell 34 = .ok (.iastore, 1) := by decide +kernel
theorem dX7_tell_35 : decode cX7_tell 35 = .ok (.aload_n 0, 1) := by decide +kernel
theorem dX7_tell_36 : decode cX7_tell 36 = .ok (.getfield 12, 3) := by decide +kernel
theorem dX7_tell_39 : decode cX7_tell 39 = .ok (.dup, 1) := by decide +kernel
theorem dX7_tell_40 : decode cX7_tell 40 = .ok (.getfield 304, 3) := by decide +kernel
theorem dX7_tell_43 : decode cX7_tell 43 = .ok (.iconst 1, 1) := by decide +kernel
theorem dX7_tell_44 : decode cX7_tell 44 = .ok (.iadd, 1) := by decide +kernel
theorem dX7_tell_45 : decode cX7_tell 45 = .ok (.putfield 304, 3) := by decide +kernel
theorem dX7_tell_48 : decode cX7_tell 48 = .ok (.aload_n 0, 1) := by decide +kernel
theorem dX7_tell_49 : decode cX7_tell 49 = .ok (.getfield 12, 3) := by decide +kernel
theorem dX7_tell_52 : decode cX7_tell 52 = .ok (.getfield 304, 3) := by decide +kernel
theorem dX7_tell_55 : decode cX7_tell 55 = .ok (.ireturn, 1) := by decide +kernel
theorem dX7_count_0 : decode cX7_count 0 = .ok (.aload_n 0, 1) := by decide +kernel
theorem dX7_count_1 : decode cX7_count 1 = .ok (.getfield 12, 3) := by decide +kernel
theorem dX7_count_4 : decode cX7_count 4 = .ok (.getfield 72, 3) := by decide +kernel
theorem dX7_count_7 : decode cX7_count 7 = .ok (.astore_n 2, 1) := by decide +kernel
theorem dX7_count_8 : decode cX7_count 8 = .ok (.iload_n 1, 1) := by decide +kernel
theorem dX7_count_9 : decode cX7_count 9 = .ok (.tableswitch 135 0 11 #[63, 68, 73, 78, 83, 88, 93, 98, 103, 111, 119, 127], 63) := by decide +kernel
theorem dX7_count_72 : decode cX7_count 72 = .ok (.aload_n 2, 1) := by decide +kernel
theorem dX7_count_73 : decode cX7_count 73 = .ok (.getfield 86, 3) := by decide +kernel
theorem dX7_count_76 : decode cX7_count 76 = .ok (.ireturn, 1) := by decide +kernel
theorem dX7_count_77 : decode cX7_count 77 = .ok (.aload_n 2, 1) := by decide +kernel
theorem dX7_count_78 : decode cX7_count 78 = .ok (.getfield 174, 3) := by decide +kernel
theorem dX7_count_81 : decode cX7_count 81 = .ok (.ireturn, 1) := by decide +kernel
theorem dX7_count_82 : decode cX7_count 82 = .ok (.aload_n 2, 1) := by decide +kernel
theorem dX7_count_83 : decode cX7_count 83 = .ok (.getfield 201, 3) := by decide +kernel
theorem dX7_count_86 : decode cX7_count 86 = .ok (.ireturn, 1) := by decide +kernel
theorem dX7_count_87 : decode cX7_count 87 = .ok (.aload_n 2, 1) := by decide +kernel
theorem dX7_count_88 : decode cX7_count 88 = .ok (.getfield 188, 3) := by decide +kernel
theorem dX7_count_91 : decode cX7_count 91 = .ok (.ireturn, 1) := by decide +kernel
theorem dX7_count_92 : decode cX7_count 92 = .ok (.aload_n 2, 1) := by decide +kernel
theorem dX7_count_93 : decode cX7_count 93 = .ok (.getfield 222, 3) := by decide +kernel
theorem dX7_count_96 : decode cX7_count 96 = .ok (.ireturn, 1) := by decide +kernel
theorem dX7_count_97 : decode cX7_count 97 = .ok (.aload_n 2, 1) := by decide +kernel
theorem dX7_count_98 : decode cX7_count 98 = .ok (.getfield 246, 3) := by decide +kernel
theorem dX7_count_101 : decode cX7_count 101 = .ok (.ireturn, 1) := by decide +kernel
theorem dX7_count_102 : decode cX7_count 102 = .ok (.aload_n 2, 1) := by decide +kernel
theorem dX7_count_103 : decode cX7_count 103 = .ok (.invokevirtual 198, 3) := by decide +kernel
theorem dX7_count_106 : decode cX7_count 106 = .ok (.ireturn, 1) := by decide +kernel
theorem dX7_count_107 : decode cX7_count 107 = .ok (.aload_n 2, 1) := by decide +kernel
theorem dX7_count_108 : decode cX7_count 108 = .ok (.invokevirtual 310, 3) := by decide +kernel
theorem dX7_count_111 : decode cX7_count 111 = .ok (.ireturn, 1) := by decide +kernel
theorem dX7_count_112 : decode cX7_count 112 = .ok (.aload_n 0, 1) := by decide +kernel
theorem dX7_count_113 : decode cX7_count 113 = .ok (.getfield 12, 3) := by decide +kernel
theorem dX7_count_116 : decode cX7_count 116 = .ok (.getfield 147, 3) := by decide +kernel
theorem dX7_count_119 : decode cX7_count 119 = .ok (.ireturn, 1) := by decide +kernel
theorem dX7_count_120 : decode cX7_count 120 = .ok (.aload_n 0, 1) := by decide +kernel
theorem dX7_count_121 : decode cX7_count 121 = .ok (.getfield 12, 3) := by decide +kernel
theorem dX7_count_124 : decode cX7_count 124 = .ok (.getfield 304, 3) := by decide +kernel
theorem dX7_count_127 : decode cX7_count 127 = .ok (.ireturn, 1) := by decide +kernel
theorem dX7_count_128 : decode cX7_count 128 = .ok (.aload_n 0, 1) := by decide +kernel
theorem dX7_count_129 : decode cX7_count 129 = .ok (.getfield 45, 3) := by decide +kernel
theorem dX7_count_132 : decode cX7_count 132 = .ok (.getfield 265, 3) := by decide +kernel
theorem dX7_count_135 : decode cX7_count 135 = .ok (.ireturn, 1) := by decide +kernel
theorem dX7_count_136 : decode cX7_count 136 = .ok (.aload_n 0, 1) := by decide +kernel
theorem dX7_count_137 : decode cX7_count 137 = .ok (.getfield 12, 3) := by decide +kernel
theorem dX7_count_140 : decode cX7_count 140 = .ok (.getfield 255, 3) := by decide +kernel
theorem dX7_count_143 : decode cX7_count 143 = .ok (.ireturn, 1) := by decide +kernel
theorem dX7_count_144 : decode cX7_count 144 = .ok (.aload_n 0, 1) := by decide +kernel
theorem dX7_count_145 : decode cX7_count 145 = .ok (.ldc 68, 2) := by decide +kernel
theorem dX7_count_147 : decode cX7_count 147 = .ok (.invokevirtual 69, 3) := by decide +kernel
theorem dX7_count_150 : decode cX7_count 150 = .ok (.ireturn, 1) := by decide +kernel
theorem dX7_told_0 : decode cX7_told 0 = .ok (.iload_n 1, 1) := by decide +kernel
theorem dX7_told_1 : decode cX7_told 1 = .ok (.iconst 1, 1) := by decide +kernel
theorem dX7_told_2 : decode cX7_told 2 = .ok (.iconst 5, 1) := by decide +kernel
theorem dX7_told_3 : decode cX7_told 3 = .ok (.invokestatic 60, 3) := by decide +kernel
theorem dX7_told_6 : decode cX7_told 6 = .ok (.ifCond .eq 12, 3) := by decide +kernel
theorem dX7_told_9 : decode cX7_told 9 = .ok (.aload_n 0, 1) := by decide +kernel
theorem dX7_told_10 : decode cX7_told 10 = .ok (.getfield 55, 3) := by decide +kernel
theorem dX7_told_13 : decode cX7_told 13 = .ok (.iload_n 1, 1) := by decide +kernel
theorem dX7_told_14 : decode cX7_told 14 = .ok (.iaload, 1) := by decide +kernel
theorem dX7_told_15 : decode cX7_told 15 = .ok (.goto 9, 3) := by decide +kernel
theorem dX7_told_24 : decode cX7_told 24 = .ok (.ireturn, 1) := by decide +kernel
theorem dX7_told_18 : decode cX7_told 18 = .ok (.aload_n 0, 1) := by decide +kernel
theorem dX7_told_19 : decode cX7_told 19 = .ok (.ldc 68, 2) := by decide +kernel
theorem dX7_told_21 : decode cX7_told 21 = .ok (.invokevirtual 69, 3) := by decide +kernel
theorem dX4_copyFrom_0 : decode cX4_copyFrom 0 = .ok (.aload_n 1, 1) := by decide +kernel
theorem dX4_copyFrom_1 : decode cX4_copyFrom 1 = .ok (.getfield 9, 3) := by decide +kernel
theorem dX4_copyFrom_4 : decode cX4_copyFrom 4 = .ok (.iconst 0, 1) := by decide +kernel
theorem dX4_copyFrom_5 : decode cX4_copyFrom 5 = .ok (.aload_n 0, 1) := by decide +kernel
theorem dX4_copyFrom_6 : decode cX4_copyFrom 6 = .ok (.getfield 9, 3) := by decide +kernel
theorem dX4_copyFrom_9 : decode cX4_copyFrom 9 = .ok (.iconst 0, 1) := by decide +kernel
theorem dX4_copyFrom_10 : decode cX4_copyFrom 10 = .ok (.aload_n 1, 1) := by decide +kernel
theorem dX4_copyFrom_11 : decode cX4_copyFrom 11 = .ok (.getfield 28, 3) := by decide +kernel
theorem dX4_copyFrom_14 : decode cX4_copyFrom 14 = .ok (.invokestatic 31, 3) := by decide +kernel
theorem dX4_copyFrom_17 : decode cX4_copyFrom 17 = .ok (.aload_n 1, 1) := by decide +kernel
theorem dX4_copyFrom_18 : decode cX4_copyFrom 18 = .ok (.getfield 15, 3) := by decide +kernel
theorem dX4_copyFrom_21 : decode cX4_copyFrom 21 = .ok (.iconst 0, 1) := by decide +kernel
theorem dX4_copyFrom_22 : decode cX4_copyFrom 22 = .ok (.aload_n 0, 1) := by decide +kernel
theorem dX4_copyFrom_23 : decode cX4_copyFrom 23 = .ok (.getfield 15, 3) := by decide +kernel
theorem dX4_copyFrom_26 : decode cX4_copyFrom 26 = .ok (.iconst 0, 1) := by decide +kernel
theorem dX4_copyFrom_27 : decode cX4_copyFrom 27 = .ok (.aload_n 1, 1) := by decide +kernel
theorem dX4_copyFrom_28 : decode cX4_copyFrom 28 = .ok (.getfield 28, 3) := by decide +kernel
theorem dX4_copyFrom_31 : decode cX4_copyFrom 31 = .ok (.invokestatic 31, 3) := by decide +kernel
theorem dX4_copyFrom_34 : decode cX4_copyFrom 34 = .ok (.aload_n 1, 1) := by decide +kernel
theorem dX4_copyFrom_35 : decode cX4_copyFrom 35 = .ok (.getfield 18, 3) := by decide +kernel
theorem dX4_copyFrom_38 : decode cX4_copyFrom 38 = .ok (.iconst 0, 1) := by decide +kernel
theorem dX4_copyFrom_39 : decode cX4_copyFrom 39 = .ok (.aload_n 0, 1) := by decide +kernel
theorem dX4_copyFrom_40 : decode cX4_copyFrom 40 = .ok (.getfield 18, 3) := by decide +kernel
theorem dX4_copyFrom_43 : decode cX4_copyFrom 43 = .ok (.iconst 0, 1) := by decide +kernel
theorem dX4_copyFrom_44 : decode cX4_copyFrom 44 = .ok (.aload_n 1, 1) := by decide +kernel
theorem dX4_copyFrom_45 : decode cX4_copyFrom 45 = .ok (.getfield 28, 3) := by decide +kernel
theorem dX4_copyFrom_48 : decode cX4_copyFrom 48 = .ok (.invokestatic 31, 3) := by decide +kernel
theorem dX4_copyFrom_51 : decode cX4_copyFrom 51 = .ok (.aload_n 0, 1) := by decide +kernel
theorem dX4_copyFrom_52 : decode cX4_copyFrom 52 = .ok (.aload_n 1, 1) := by decide +kernel
theorem dX4_copyFrom_53 : decode cX4_copyFrom 53 = .ok (.getfield 24, 3) := by decide +kernel
theorem dX4_copyFrom_56 : decode cX4_copyFrom 56 = .ok (.putfield 24, 3) := by decide +kernel
theorem dX4_copyFrom_59 : decode cX4_copyFrom 59 = .ok (.aload_n 0, 1) := by decide +kernel
theorem dX4_copyFrom_60 : decode cX4_copyFrom 60 = .ok (.aload_n 1, 1) := by decide +kernel
theorem dX4_copyFrom_61 : decode cX4_copyFrom 61 = .ok (.getfield 28, 3) := by decide +kernel
theorem dX4_copyFrom_64 : decode cX4_copyFrom 64 = .ok (.putfield 28, 3) := by decide +kernel
theorem dX4_copyFrom_67 : decode cX4_copyFrom 67 = .ok (.return_, 1) := by decide +kernel
theorem dX6_copyFrom_0 : decode cX6_copyFrom 0 = .ok (.aload_n 0, 1) := by decide +kernel
theorem dX6_copyFrom_1 : decode cX6_copyFrom 1 = .ok (.getfield 12, 3) := by decide +kernel
theorem dX6_copyFrom_4 : decode cX6_copyFrom 4 = .ok (.aload_n 1, 1) := by decide +kernel
theorem dX6_copyFrom_5 : decode cX6_copyFrom 5 = .ok (.getfield 12, 3) := by decide +kernel
theorem dX6_copyFrom_8 : decode cX6_copyFrom 8 = .ok (.invokevirtual 46, 3) := by decide +kernel
theorem dX6_copyFrom_11 : decode cX6_copyFrom 11 = .ok (.aload_n 0, 1) := by decide +kernel
theorem dX6_copyFrom_12 : decode cX6_copyFrom 12 = .ok (.getfield 18, 3) := by decide +kernel
theorem dX6_copyFrom_15 : decode cX6_copyFrom 15 = .ok (.aload_n 1, 1) := by decide +kernel
theorem dX6_copyFrom_16 : decode cX6_copyFrom 16 = .ok (.getfield 18, 3) := by decide +kernel
theorem dX6_copyFrom_19 : decode cX6_copyFrom 19 = .ok (.invokevirtual 46, 3) := by decide +kernel
theorem dX6_copyFrom_22 : decode cX6_copyFrom 22 = .ok (.aload_n 0, 1) := by decide +kernel
theorem dX6_copyFrom_23 : decode cX6_copyFrom 23 = .ok (.getfield 26, 3) := by decide +kernel
theorem dX6_copyFrom_26 : decode cX6_copyFrom 26 = .ok (.aload_n 1, 1) := by decide +kernel
theorem dX6_copyFrom_27 : decode cX6_copyFrom 27 = .ok (.getfield 26, 3) := by decide +kernel
theorem dX6_copyFrom_30 : decode cX6_copyFrom 30 = .ok (.invokevirtual 50, 3) := by decide +kernel
theorem dX6_copyFrom_33 : decode cX6_copyFrom 33 = .ok (.aload_n 1, 1) := by decide +kernel
theorem dX6_copyFrom_34 : decode cX6_copyFrom 34 = .ok (.getfield 30, 3) := by decide +kernel
theorem dX6_copyFrom_37 : decode cX6_copyFrom 37 = .ok (.iconst 0, 1) := by decide +kernel
theorem dX6_copyFrom_38 : decode cX6_copyFrom 38 = .ok (.aload_n 0, 1) := by decide +kernel
theorem dX6_copyFrom_39 : decode cX6_copyFrom 39 = .ok (.getfield 30, 3) := by decide +kernel
theorem dX6_copyFrom_42 : decode cX6_copyFrom 42 = .ok (.iconst 0, 1) := by decide +kernel
theorem dX6_copyFrom_43 : decode cX6_copyFrom 43 = .ok (.aload_n 1, 1) := by decide +kernel
theorem dX6_copyFrom_44 : decode cX6_copyFrom 44 = .ok (.getfield 53, 3) := by decide +kernel
theorem dX6_copyFrom_47 : decode cX6_copyFrom 47 = .ok (.invokestatic 56, 3) := by decide +kernel
theorem dX6_copyFrom_50 : decode cX6_copyFrom 50 = .ok (.aload_n 1, 1) := by decide +kernel
theorem dX6_copyFrom_51 : decode cX6_copyFrom 51 = .ok (.getfield 34, 3) := by decide +kernel
theorem dX6_copyFrom_54 : decode cX6_copyFrom 54 = .ok (.iconst 0, 1) := by decide +kernel
theorem dX6_copyFrom_55 : decode cX6_copyFrom 55 = .ok (.aload_n 0, 1) := by decide +kernel
theorem dX6_copyFrom_56 : decode cX6_copyFrom 56 = .ok (.getfield 34, 3) := by decide +kernel
theorem dX6_copyFrom_59 : decode cX6_copyFrom 59 = .ok (.iconst 0, 1) := by decide +kernel
theorem dX6_copyFrom_60 : decode cX6_copyFrom 60 = .ok (.aload_n 1, 1) := by decide +kernel
theorem dX6_copyFrom_61 : decode cX6_copyFrom 61 = .ok (.getfield 62, 3) := by decide +kernel
theorem dX6_copyFrom_64 : decode cX6_copyFrom 64 = .ok (.invokestatic 56, 3) := by decide +kernel
theorem dX6_copyFrom_67 : decode cX6_copyFrom 67 = .ok (.aload_n 0, 1) := by decide +kernel
theorem dX6_copyFrom_68 : decode cX6_copyFrom 68 = .ok (.aload_n 1, 1) := by decide +kernel
theorem dX6_copyFrom_69 : decode cX6_copyFrom 69 = .ok (.getfield 53, 3) := by decide +kernel
theorem dX6_copyFrom_72 : decode cX6_copyFrom 72 = .ok (.putfield 53, 3) := by decide +kernel
theorem dX6_copyFrom_75 : decode cX6_copyFrom 75 = .ok (.aload_n 0, 1) := by decide +kernel
theorem dX6_copyFrom_76 : decode cX6_copyFrom 76 = .ok (.aload_n 1, 1) := by decide +kernel
theorem dX6_copyFrom_77 : decode cX6_copyFrom 77 = .ok (.getfield 62, 3) := by decide +kernel
theorem dX6_copyFrom_80 : decode cX6_copyFrom 80 = .ok (.putfield 62, 3) := by decide +kernel
theorem dX6_copyFrom_83 : decode cX6_copyFrom 83 = .ok (.aload_n 0, 1) := by decide +kernel
theorem dX6_copyFrom_84 : decode cX6_copyFrom 84 = .ok (.aload_n 1, 1) := by decide +kernel
theorem dX6_copyFrom_85 : decode cX6_copyFrom 85 = .ok (.getfield 37, 3) := by decide +kernel
theorem dX6_copyFrom_88 : decode cX6_copyFrom 88 = .ok (.putfield 37, 3) := by decide +kernel
theorem dX6_copyFrom_91 : decode cX6_copyFrom 91 = .ok (.return_, 1) := by decide +kernel
theorem dX7_image_0 : decode cX7_image 0 = .ok (.aload_n 0, 1) := by decide +kernel
theorem dX7_image_1 : decode cX7_image 1 = .ok (.getfield 16, 3) := by decide +kernel
theorem dX7_image_4 : decode cX7_image 4 = .ok (.aload_n 0, 1) := by decide +kernel
theorem dX7_image_5 : decode cX7_image 5 = .ok (.getfield 12, 3) := by decide +kernel
theorem dX7_image_8 : decode cX7_image 8 = .ok (.invokevirtual 298, 3) := by decide +kernel
theorem dX7_image_11 : decode cX7_image 11 = .ok (.aload_n 0, 1) := by decide +kernel
theorem dX7_image_12 : decode cX7_image 12 = .ok (.dup, 1) := by decide +kernel
theorem dX7_image_13 : decode cX7_image 13 = .ok (.getfield 301, 3) := by decide +kernel
theorem dX7_image_16 : decode cX7_image 16 = .ok (.iconst 1, 1) := by decide +kernel
theorem dX7_image_17 : decode cX7_image 17 = .ok (.iadd, 1) := by decide +kernel
theorem dX7_image_18 : decode cX7_image 18 = .ok (.putfield 301, 3) := by decide +kernel
theorem dX7_image_21 : decode cX7_image 21 = .ok (.aload_n 0, 1) := by decide +kernel
theorem dX7_image_22 : decode cX7_image 22 = .ok (.getfield 301, 3) := by decide +kernel
theorem dX7_image_25 : decode cX7_image 25 = .ok (.ireturn, 1) := by decide +kernel
theorem dX1_turnInto_0 : decode cX1_turnInto 0 = .ok (.aload_n 0, 1) := by decide +kernel
theorem dX1_turnInto_1 : decode cX1_turnInto 1 = .ok (.iload_n 1, 1) := by decide +kernel
theorem dX1_turnInto_2 : decode cX1_turnInto 2 = .ok (.bipush 10, 2) := by decide +kernel
theorem dX1_turnInto_4 : decode cX1_turnInto 4 = .ok (.idiv, 1) := by decide +kernel
theorem dX1_turnInto_5 : decode cX1_turnInto 5 = .ok (.putfield 9, 3) := by decide +kernel
theorem dX1_turnInto_8 : decode cX1_turnInto 8 = .ok (.aload_n 0, 1) := by decide +kernel
theorem dX1_turnInto_9 : decode cX1_turnInto 9 = .ok (.iload_n 1, 1) := by decide +kernel
theorem dX1_turnInto_10 : decode cX1_turnInto 10 = .ok (.bipush 10, 2) := by decide +kernel
theorem dX1_turnInto_12 : decode cX1_turnInto 12 = .ok (.irem, 1) := by decide +kernel
theorem dX1_turnInto_13 : decode cX1_turnInto 13 = .ok (.putfield 15, 3) := by decide +kernel
theorem dX1_turnInto_16 : decode cX1_turnInto 16 = .ok (.return_, 1) := by decide +kernel
theorem dX7_quarrel_0 : decode cX7_quarrel 0 = .ok (.aload_n 0, 1) := by decide +kernel
theorem dX7_quarrel_1 : decode cX7_quarrel 1 = .ok (.getfield 12, 3) := by decide +kernel
theorem dX7_quarrel_4 : decode cX7_quarrel 4 = .ok (.getfield 72, 3) := by decide +kernel
theorem dX7_quarrel_7 : decode cX7_quarrel 7 = .ok (.astore 5, 2) := by decide +kernel
theorem dX7_quarrel_9 : decode cX7_quarrel 9 = .ok (.iload_n 1, 1) := by decide +kernel
theorem dX7_quarrel_10 : decode cX7_quarrel 10 = .ok (.invokestatic 82, 3) := by decide +kernel
theorem dX7_quarrel_13 : decode cX7_quarrel 13 = .ok (.ifCond .eq 39, 3) := by decide +kernel
theorem dX7_quarrel_16 : decode cX7_quarrel 16 = .ok (.iload_n 2, 1) := by decide +kernel
theorem dX7_quarrel_17 : decode cX7_quarrel 17 = .ok (.iconst 0, 1) := by decide +kernel
theorem dX7_quarrel_18 : decode cX7_quarrel 18 = .ok (.bipush 9, 2) := by decide +kernel
theorem dX7_quarrel_20 : decode cX7_quarrel 20 = .ok (.invokestatic 60, 3) := by decide +kernel
theorem dX7_quarrel_23 : decode cX7_quarrel 23 = .ok (.ifCond .eq 29, 3) := by decide +kernel
theorem dX7_quarrel_26 : decode cX7_quarrel 26 = .ok (.iload_n 3, 1) := by decide +kernel
theorem dX7_quarrel_27 : decode cX7_quarrel 27 = .ok (.iconst 0, 1) := by decide +kernel
theorem dX7_quarrel_28 : decode cX7_quarrel 28 = .ok (.bipush 99, 2) := by decide +kernel
theorem dX7_quarrel_30 : decode cX7_quarrel 30 = .ok (.invokestatic 60, 3) := by decide +kernel
theorem dX7_quarrel_33 : decode cX7_quarrel 33 = .ok (.ifCond .eq 19, 3) := by decide +kernel
theorem dX7_quarrel_36 : decode cX7_quarrel 36 = .ok (.iload 4, 2) := by decide +kernel
theorem dX7_quarrel_38 : decode cX7_quarrel 38 = .ok (.iconst (-1), 1) := by decide +kernel
theorem dX7_quarrel_39 : decode cX7_quarrel 39 = .ok (.aload 5, 2) := by decide +kernel
theorem dX7_quarrel_41 : decode cX7_quarrel 41 = .ok (.getfield 86, 3) := by decide +kernel
theorem dX7_quarrel_44 : decode cX7_quarrel 44 = .ok (.iconst 1, 1) := by decide +kernel
theorem dX7_quarrel_45 : decode cX7_quarrel 45 = .ok (.isub, 1) := by decide +kernel
theorem dX7_quarrel_46 : decode cX7_quarrel 46 = .ok (.invokestatic 60, 3) := by decide +kernel
theorem dX7_quarrel_49 : decode cX7_quarrel 49 = .ok (.ifCond .ne 10, 3) := by decide +kernel
theorem dX7_quarrel_59 : decode cX7_quarrel 59 = .ok (.aload 5, 2) := by decide +kernel
theorem dX7_quarrel_61 : decode cX7_quarrel 61 = .ok (.getfield 86, 3) := by decide +kernel
theorem dX7_quarrel_64 : decode cX7_quarrel 64 = .ok (.bipush 9, 2) := by decide +kernel
theorem dX7_quarrel_66 : decode cX7_quarrel 66 = .ok (.if_icmp .lt 10, 3) := by decide +kernel
theorem dX7_quarrel_76 : decode cX7_quarrel 76 = .ok (.aload 5, 2) := by decide +kernel
theorem dX7_quarrel_78 : decode cX7_quarrel 78 = .ok (.getfield 91, 3) := by decide +kernel
theorem dX7_quarrel_81 : decode cX7_quarrel 81 = .ok (.aload 5, 2) := by decide +kernel
theorem dX7_quarrel_83 : decode cX7_quarrel 83 = .ok (.getfield 86, 3) := by decide +kernel
theorem dX7_quarrel_86 : decode cX7_quarrel 86 = .ok (.aaload, 1) := by decide +kernel
theorem dX7_quarrel_87 : decode cX7_quarrel 87 = .ok (.astore 6, 2) := by decide +kernel
theorem dX7_quarrel_89 : decode cX7_quarrel 89 = .ok (.aload 6, 2) := by decide +kernel
theorem dX7_quarrel_91 : decode cX7_quarrel 91 = .ok (.iload_n 1, 1) := by decide +kernel
theorem dX7_quarrel_92 : decode cX7_quarrel 92 = .ok (.invokevirtual 95, 3) := by decide +kernel
theorem dX7_quarrel_95 : decode cX7_quarrel 95 = .ok (.aload 6, 2) := by decide +kernel
theorem dX7_quarrel_97 : decode cX7_quarrel 97 = .ok (.iload_n 2, 1) := by decide +kernel
theorem dX7_quarrel_98 : decode cX7_quarrel 98 = .ok (.putfield 101, 3) := by decide +kernel
theorem dX7_quarrel_101 : decode cX7_quarrel 101 = .ok (.aload 6, 2) := by decide +kernel
theorem dX7_quarrel_103 : decode cX7_quarrel 103 = .ok (.iload_n 3, 1) := by decide +kernel
theorem dX7_quarrel_104 : decode cX7_quarrel 104 = .ok (.putfield 104, 3) := by decide +kernel
theorem dX7_quarrel_107 : decode cX7_quarrel 107 = .ok (.aload 6, 2) := by decide +kernel
theorem dX7_quarrel_109 : decode cX7_quarrel 109 = .ok (.iload 4, 2) := by decide +kernel
theorem dX7_quarrel_111 : decode cX7_quarrel 111 = .ok (.putfield 107, 3) := by decide +kernel
theorem dX7_quarrel_114 : decode cX7_quarrel 114 = .ok (.aload 6, 2) := by decide +kernel
theorem dX7_quarrel_116 : decode cX7_quarrel 116 = .ok (.iconst 0, 1) := by decide +kernel
theorem dX7_quarrel_117 : decode cX7_quarrel 117 = .ok (.putfield 110, 3) := by decide +kernel
theorem dX7_quarrel_120 : decode cX7_quarrel 120 = .ok (.aload 6, 2) := by decide +kernel
theorem dX7_quarrel_122 : decode cX7_quarrel 122 = .ok (.iconst 0, 1) := by decide +kernel
theorem dX7_quarrel_123 : decode cX7_quarrel 123 = .ok (.putfield 114, 3) := by decide +kernel
theorem dX7_quarrel_126 : decode cX7_quarrel 126 = .ok (.aload 5, 2) := by decide +kernel
theorem dX7_quarrel_128 : decode cX7_quarrel 128 = .ok (.dup, 1) := by decide +kernel
theorem dX7_quarrel_129 : decode cX7_quarrel 129 = .ok (.getfield 86, 3) := by decide +kernel
theorem dX7_quarrel_132 : decode cX7_quarrel 132 = .ok (.iconst 1, 1) := by decide +kernel
theorem dX7_quarrel_133 : decode cX7_quarrel 133 = .ok (.iadd, 1) := by decide +kernel
theorem dX7_quarrel_134 : decode cX7_quarrel 134 = .ok (.putfield 86, 3) := by decide +kernel
theorem dX7_quarrel_137 : decode cX7_quarrel 137 = .ok (.aload 5, 2) := by decide +kernel
theorem dX7_quarrel_139 : decode cX7_quarrel 139 = .ok (.getfield 86, 3) := by decide +kernel
theorem dX7_quarrel_142 : decode cX7_quarrel 142 = .ok (.iconst 1, 1) := by decide +kernel
theorem dX7_quarrel_143 : decode cX7_quarrel 143 = .ok (.isub, 1) := by decide +kernel
theorem dX7_quarrel_144 : decode cX7_quarrel 144 = .ok (.ireturn, 1) := by decide +kernel
theorem dX7_quarrel_52 : decode cX7_quarrel 52 = .ok (.aload_n 0, 1) := by decide +kernel
theorem dX7_quarrel_53 : decode cX7_quarrel 53 = .ok (.ldc 68, 2) := by decide +kernel
theorem dX7_quarrel_55 : decode cX7_quarrel 55 = .ok (.invokevirtual 69, 3) := by decide +kernel
theorem dX7_quarrel_58 : decode cX7_quarrel 58 = .ok (.ireturn, 1) := by decide +kernel
set_option maxRecDepth 100000 in
set_option maxHeartbeats 4000000 in
theorem c_isMissing0_70 (l : Launch) (D : va_G) (y : wY) (ad : Nat → Nat) (M : Mem) (hm : M 70 1 = 0) : MI l D y ad yX3_isMissing (Cond.code yX3_isMissing cX3_isMissing 1 (some .boolean)) 0 M [.ref (ad 70)] (fun r M' => 1 = r ∧ M = M') := by
  refine MI_of (by decide) (Nat.le_of_ble_eq_true rfl) ?_
  intro p e s m args below meth c X hr hlocks
  refine j_lv (lv1 := [(0, .ref (ad 70))]) [0] rfl ?_
  refine j_aload_n X 0 rfl rfl dX3_isMissing_0 ?_
  refine j_get X (by decide) (wE_3 _ rfl) rfl awF3 1 (by decide) aw_644 rfl (v := .int (M 70 1)) rfl dX3_isMissing_1 ?_
  refine j_eqi (v := 0) hm ?_
  refine j_if_ne X 11 (by decide) dX3_isMissing_4 (fun c_1 => False.elim (by revert c_1; decide)) (fun c_1 => ?_)
  refine j_iconst X (v := 1) (by decide) dX3_isMissing_7 ?_
  refine j_goto X 12 (by decide) dX3_isMissing_8 ?_
  exact j_zret X hr hlocks (Or.inr rfl) dX3_isMissing_12 ⟨rfl, rfl⟩
set_option maxRecDepth 100000 in
set_option maxHeartbeats 4000000 in
theorem c_isMissing0_72 (l : Launch) (D : va_G) (y : wY) (ad : Nat → Nat) (M : Mem) (hm : M 72 1 = 0) : MI l D y ad yX3_isMissing (Cond.code yX3_isMissing cX3_isMissing 1 (some .boolean)) 0 M [.ref (ad 72)] (fun r M' => 1 = r ∧ M = M') := by
  refine MI_of (by decide) (Nat.le_of_ble_eq_true rfl) ?_
  intro p e s m args below meth c X hr hlocks
  refine j_lv (lv1 := [(0, .ref (ad 72))]) [0] rfl ?_
  refine j_aload_n X 0 rfl rfl dX3_isMissing_0 ?_
  refine j_get X (by decide) (wE_3 _ rfl) rfl awF3 1 (by decide) aw_644 rfl (v := .int (M 72 1)) rfl dX3_isMissing_1 ?_
  refine j_eqi (v := 0) hm ?_
  refine j_if_ne X 11 (by decide) dX3_isMissing_4 (fun c_1 => False.elim (by revert c_1; decide)) (fun c_1 => ?_)
  refine j_iconst X (v := 1) (by decide) dX3_isMissing_7 ?_
  refine j_goto X 12 (by decide) dX3_isMissing_8 ?_
  exact j_zret X hr hlocks (Or.inr rfl) dX3_isMissing_12 ⟨rfl, rfl⟩
set_option maxRecDepth 100000 in
set_option maxHeartbeats 4000000 in
theorem c_isMissing0_74 (l : Launch) (D : va_G) (y : wY) (ad : Nat → Nat) (M : Mem) (hm : M 74 1 = 0) : MI l D y ad yX3_isMissing (Cond.code yX3_isMissing cX3_isMissing 1 (some .boolean)) 0 M [.ref (ad 74)] (fun r M' => 1 = r ∧ M = M') := by
  refine MI_of (by decide) (Nat.le_of_ble_eq_true rfl) ?_
  intro p e s m args below meth c X hr hlocks
  refine j_lv (lv1 := [(0, .ref (ad 74))]) [0] rfl ?_
  refine j_aload_n X 0 rfl rfl dX3_isMissing_0 ?_
  refine j_get X (by decide) (wE_3 _ rfl) rfl awF3 1 (by decide) aw_644 rfl (v := .int (M 74 1)) rfl dX3_isMissing_1 ?_
  refine j_eqi (v := 0) hm ?_
  refine j_if_ne X 11 (by decide) dX3_isMissing_4 (fun c_1 => False.elim (by revert c_1; decide)) (fun c_1 => ?_)
  refine j_iconst X (v := 1) (by decide) dX3_isMissing_7 ?_
  refine j_goto X 12 (by decide) dX3_isMissing_8 ?_
  exact j_zret X hr hlocks (Or.inr rfl) dX3_isMissing_12 ⟨rfl, rfl⟩
set_option maxRecDepth 100000 in
set_option maxHeartbeats 4000000 in
theorem c_isMissing0_76 (l : Launch) (D : va_G) (y : wY) (ad : Nat → Nat) (M : Mem) (hm : M 76 1 = 0) : MI l D y ad yX3_isMissing (Cond.code yX3_isMissing cX3_isMissing 1 (some .boolean)) 0 M [.ref (ad 76)] (fun r M' => 1 = r ∧ M = M') := by
  refine MI_of (by decide) (Nat.le_of_ble_eq_true rfl) ?_
  intro p e s m args below meth c X hr hlocks
  refine j_lv (lv1 := [(0, .ref (ad 76))]) [0] rfl ?_
  refine j_aload_n X 0 rfl rfl dX3_isMissing_0 ?_
  refine j_get X (by decide) (wE_3 _ rfl) rfl awF3 1 (by decide) aw_644 rfl (v := .int (M 76 1)) rfl dX3_isMissing_1 ?_
  refine j_eqi (v := 0) hm ?_
  refine j_if_ne X 11 (by decide) dX3_isMissing_4 (fun c_1 => False.elim (by revert c_1; decide)) (fun c_1 => ?_)
  refine j_iconst X (v := 1) (by decide) dX3_isMissing_7 ?_
  refine j_goto X 12 (by decide) dX3_isMissing_8 ?_
  exact j_zret X hr hlocks (Or.inr rfl) dX3_isMissing_12 ⟨rfl, rfl⟩
set_option maxRecDepth 100000 in
set_option maxHeartbeats 4000000 in
theorem c0_X7_put (l : Launch) (D : va_G) (y : wY) (ad : Nat → Nat) (M : Mem) (hz : Z0 M) (sh i v : Int32) : MI l D y ad yX7_put (Cond.code yX7_put cX7_put 5 (some .int)) 6 M [.ref (ad 0), .int sh, .int i, .int v] (fun r M' => sp_put sh i v = r ∧ sm (fun b _ => decide (b < 79)) M M') := by
  refine MI_of (by decide) (Nat.le_of_ble_eq_true rfl) ?_
  intro p e s m args below meth c X hr hlocks
  refine j_lv (lv1 := [(0, .ref (ad 0)), (1, .int sh), (2, .int i), (3, .int v)]) [0, 1, 2, 3] rfl ?_
  refine j_iload_n X 1 rfl rfl dX7_put_0 ?_
  refine j_callSI X (nn := 1) (As := [.int sh]) (st := []) aw_639 (c_X7_isSheet l D y ad M sh) aw_638 aw_640 aw_2 (by decide +kernel) ⟨by decide, by decide⟩ rfl (Nat.le_of_ble_eq_true rfl) ⟨by decide, by decide⟩ dX7_put_1 ?_
  rintro r_ M1_ (⟨rfl, rfl, h_1⟩ | ⟨rfl, rfl, h_1⟩)
  · refine j_if_ne X 14 (by decide) dX7_put_4 (fun c_2 => ?_) (fun c_2 => False.elim (by revert c_2; decide))
    refine j_aload_n X 0 rfl rfl dX7_put_14 ?_
    refine j_get X (by decide) (wE_7 _ rfl) rfl awF7 5 (by decide) aw_31 rfl (v := .ref (ad 69)) rfl dX7_put_15 ?_
    refine j_iload_n X 1 rfl rfl dX7_put_18 ?_
    rcases is_0_3 h_1 with rfl | rfl | rfl | rfl
    · refine j_aald11 X (by decide) rfl (by unfold vp_in; decide) dX7_put_19 ?_
      refine j_eqr (v := 70) rfl ?_
      refine j_astore X [(4, .ref (ad 70)), (0, .ref (ad 0)), (1, .int 0), (2, .int i), (3, .int v)] (by decide) rfl dX7_put_20 ?_
      refine j_aload X 0 rfl dX7_put_22 ?_
      refine j_callVNI X (nn := 0) (As := []) (st := []) (ci := 3) (by decide) (wE_3 _ rfl) rfl aw_641 aw_642 (c_isMissing0_70 l D y ad M hz.2.2.2.2.2.2.2.2.2.2.2.1) (List.mem_of_getElem? (i := 38) rfl) aw_643 aw_35 (by decide +kernel) ⟨by decide, by decide⟩ rfl (Nat.le_of_ble_eq_true rfl) ⟨by decide, by decide⟩ dX7_put_24 ?_
      rintro r_ M1_ ⟨rfl, rfl⟩
      refine j_if_eq X 37 (by decide) dX7_put_27 (fun c_3 => False.elim (by revert c_3; decide)) (fun c_3 => ?_)
      refine j_aload_n X 1 rfl rfl dX7_put_30 ?_
      refine j_ldc X (v := (-1000000002)) aw_560 dX7_put_31 ?_
      refine j_callVI X (nn := 1) (As := [.int (-1000000002)]) (st := []) (ci := 7) (by decide) (wE_7 _ rfl) rfl aw_117 aw_118 (c_X7_refuse l D y ad M (-1000000002) 2 (by decide) (by decide)) aw_116 aw_119 aw_2 (by decide +kernel) ⟨by decide, by decide⟩ rfl (Nat.le_of_ble_eq_true rfl) ⟨by decide, by decide⟩ dX7_put_33 ?_
      rintro r_ M1_ ⟨rfl, rfl⟩
      exact j_iret X hr hlocks dX7_put_36 ⟨(by unfold sp_put; (repeat' split) <;> first | rfl | omega | (exfalso; omega)), (sm_up sm_rf rfl)⟩
    · refine j_aald11 X (by decide) rfl (by unfold vp_in; decide) dX7_put_19 ?_
      refine j_eqr (v := 72) rfl ?_
      refine j_astore X [(4, .ref (ad 72)), (0, .ref (ad 0)), (1, .int 1), (2, .int i), (3, .int v)] (by decide) rfl dX7_put_20 ?_
      refine j_aload X 0 rfl dX7_put_22 ?_
      refine j_callVNI X (nn := 0) (As := []) (st := []) (ci := 3) (by decide) (wE_3 _ rfl) rfl aw_641 aw_642 (c_isMissing0_72 l D y ad M hz.2.2.2.2.2.2.2.2.2.2.2.2.1) (List.mem_of_getElem? (i := 38) rfl) aw_643 aw_35 (by decide +kernel) ⟨by decide, by decide⟩ rfl (Nat.le_of_ble_eq_true rfl) ⟨by decide, by decide⟩ dX7_put_24 ?_
      rintro r_ M1_ ⟨rfl, rfl⟩
      refine j_if_eq X 37 (by decide) dX7_put_27 (fun c_4 => False.elim (by revert c_4; decide)) (fun c_4 => ?_)
      refine j_aload_n X 1 rfl rfl dX7_put_30 ?_
      refine j_ldc X (v := (-1000000002)) aw_560 dX7_put_31 ?_
      refine j_callVI X (nn := 1) (As := [.int (-1000000002)]) (st := []) (ci := 7) (by decide) (wE_7 _ rfl) rfl aw_117 aw_118 (c_X7_refuse l D y ad M (-1000000002) 2 (by decide) (by decide)) aw_116 aw_119 aw_2 (by decide +kernel) ⟨by decide, by decide⟩ rfl (Nat.le_of_ble_eq_true rfl) ⟨by decide, by decide⟩ dX7_put_33 ?_
      rintro r_ M1_ ⟨rfl, rfl⟩
      exact j_iret X hr hlocks dX7_put_36 ⟨(by unfold sp_put; (repeat' split) <;> first | rfl | omega | (exfalso; omega)), (sm_up sm_rf rfl)⟩
    · refine j_aald11 X (by decide) rfl (by unfold vp_in; decide) dX7_put_19 ?_
      refine j_eqr (v := 74) rfl ?_
      refine j_astore X [(4, .ref (ad 74)), (0, .ref (ad 0)), (1, .int 2), (2, .int i), (3, .int v)] (by decide) rfl dX7_put_20 ?_
      refine j_aload X 0 rfl dX7_put_22 ?_
      refine j_callVNI X (nn := 0) (As := []) (st := []) (ci := 3) (by decide) (wE_3 _ rfl) rfl aw_641 aw_642 (c_isMissing0_74 l D y ad M hz.2.2.2.2.2.2.2.2.2.2.2.2.2.1) (List.mem_of_getElem? (i := 38) rfl) aw_643 aw_35 (by decide +kernel) ⟨by decide, by decide⟩ rfl (Nat.le_of_ble_eq_true rfl) ⟨by decide, by decide⟩ dX7_put_24 ?_
      rintro r_ M1_ ⟨rfl, rfl⟩
      refine j_if_eq X 37 (by decide) dX7_put_27 (fun c_5 => False.elim (by revert c_5; decide)) (fun c_5 => ?_)
      refine j_aload_n X 1 rfl rfl dX7_put_30 ?_
      refine j_ldc X (v := (-1000000002)) aw_560 dX7_put_31 ?_
      refine j_callVI X (nn := 1) (As := [.int (-1000000002)]) (st := []) (ci := 7) (by decide) (wE_7 _ rfl) rfl aw_117 aw_118 (c_X7_refuse l D y ad M (-1000000002) 2 (by decide) (by decide)) aw_116 aw_119 aw_2 (by decide +kernel) ⟨by decide, by decide⟩ rfl (Nat.le_of_ble_eq_true rfl) ⟨by decide, by decide⟩ dX7_put_33 ?_
      rintro r_ M1_ ⟨rfl, rfl⟩
      exact j_iret X hr hlocks dX7_put_36 ⟨(by unfold sp_put; (repeat' split) <;> first | rfl | omega | (exfalso; omega)), (sm_up sm_rf rfl)⟩
    · refine j_aald11 X (by decide) rfl (by unfold vp_in; decide) dX7_put_19 ?_
      refine j_eqr (v := 76) rfl ?_
      refine j_astore X [(4, .ref (ad 76)), (0, .ref (ad 0)), (1, .int 3), (2, .int i), (3, .int v)] (by decide) rfl dX7_put_20 ?_
      refine j_aload X 0 rfl dX7_put_22 ?_
      refine j_callVNI X (nn := 0) (As := []) (st := []) (ci := 3) (by decide) (wE_3 _ rfl) rfl aw_641 aw_642 (c_isMissing0_76 l D y ad M hz.2.2.2.2.2.2.2.2.2.2.2.2.2.2.1) (List.mem_of_getElem? (i := 38) rfl) aw_643 aw_35 (by decide +kernel) ⟨by decide, by decide⟩ rfl (Nat.le_of_ble_eq_true rfl) ⟨by decide, by decide⟩ dX7_put_24 ?_
      rintro r_ M1_ ⟨rfl, rfl⟩
      refine j_if_eq X 37 (by decide) dX7_put_27 (fun c_6 => False.elim (by revert c_6; decide)) (fun c_6 => ?_)
      refine j_aload_n X 1 rfl rfl dX7_put_30 ?_
      refine j_ldc X (v := (-1000000002)) aw_560 dX7_put_31 ?_
      refine j_callVI X (nn := 1) (As := [.int (-1000000002)]) (st := []) (ci := 7) (by decide) (wE_7 _ rfl) rfl aw_117 aw_118 (c_X7_refuse l D y ad M (-1000000002) 2 (by decide) (by decide)) aw_116 aw_119 aw_2 (by decide +kernel) ⟨by decide, by decide⟩ rfl (Nat.le_of_ble_eq_true rfl) ⟨by decide, by decide⟩ dX7_put_33 ?_
      rintro r_ M1_ ⟨rfl, rfl⟩
      exact j_iret X hr hlocks dX7_put_36 ⟨(by unfold sp_put; (repeat' split) <;> first | rfl | omega | (exfalso; omega)), (sm_up sm_rf rfl)⟩
  · refine j_if_ne X 14 (by decide) dX7_put_4 (fun c_7 => False.elim (by revert c_7; decide)) (fun c_7 => ?_)
    refine j_aload_n X 0 rfl rfl dX7_put_7 ?_
    refine j_ldc X (v := (-1000000001)) aw_108 dX7_put_8 ?_
    refine j_callVI X (nn := 1) (As := [.int (-1000000001)]) (st := []) (ci := 7) (by decide) (wE_7 _ rfl) rfl aw_117 aw_118 (c_X7_refuse l D y ad M (-1000000001) 1 (by decide) (by decide)) aw_116 aw_119 aw_2 (by decide +kernel) ⟨by decide, by decide⟩ rfl (Nat.le_of_ble_eq_true rfl) ⟨by decide, by decide⟩ dX7_put_10 ?_
    rintro r_ M1_ ⟨rfl, rfl⟩
    exact j_iret X hr hlocks dX7_put_13 ⟨(by unfold sp_put; (repeat' split) <;> first | rfl | omega | (exfalso; omega)), (sm_up sm_rf rfl)⟩
set_option maxRecDepth 100000 in
set_option maxHeartbeats 4000000 in
theorem c0_X7_edges (l : Launch) (D : va_G) (y : wY) (ad : Nat → Nat) (M : Mem) (hz : Z0 M) (sh : Int32) : MI l D y ad yX7_edges (Cond.code yX7_edges cX7_edges 5 (some .int)) 6 M [.ref (ad 0), .int sh] (fun r M' => sp_edges sh = r ∧ sm (fun b _ => decide (b < 79)) M M') := by
  refine MI_of (by decide) (Nat.le_of_ble_eq_true rfl) ?_
  intro p e s m args below meth c X hr hlocks
  refine j_lv (lv1 := [(0, .ref (ad 0)), (1, .int sh)]) [0, 1] rfl ?_
  refine j_iload_n X 1 rfl rfl dX7_edges_0 ?_
  refine j_callSI X (nn := 1) (As := [.int sh]) (st := []) aw_639 (c_X7_isSheet l D y ad M sh) aw_638 aw_640 aw_2 (by decide +kernel) ⟨by decide, by decide⟩ rfl (Nat.le_of_ble_eq_true rfl) ⟨by decide, by decide⟩ dX7_edges_1 ?_
  rintro r_ M1_ (⟨rfl, rfl, h_1⟩ | ⟨rfl, rfl, h_1⟩)
  · refine j_if_ne X 14 (by decide) dX7_edges_4 (fun c_2 => ?_) (fun c_2 => False.elim (by revert c_2; decide))
    refine j_aload_n X 0 rfl rfl dX7_edges_14 ?_
    refine j_get X (by decide) (wE_7 _ rfl) rfl awF7 5 (by decide) aw_31 rfl (v := .ref (ad 69)) rfl dX7_edges_15 ?_
    refine j_iload_n X 1 rfl rfl dX7_edges_18 ?_
    rcases is_0_3 h_1 with rfl | rfl | rfl | rfl
    · refine j_aald11 X (by decide) rfl (by unfold vp_in; decide) dX7_edges_19 ?_
      refine j_eqr (v := 70) rfl ?_
      refine j_astore_n X [(2, .ref (ad 70)), (0, .ref (ad 0)), (1, .int 0)] rfl (by decide) rfl dX7_edges_20 ?_
      refine j_aload_n X 0 rfl rfl dX7_edges_21 ?_
      refine j_callVNI X (nn := 0) (As := []) (st := []) (ci := 3) (by decide) (wE_3 _ rfl) rfl aw_641 aw_642 (c_isMissing0_70 l D y ad M hz.2.2.2.2.2.2.2.2.2.2.2.1) (List.mem_of_getElem? (i := 38) rfl) aw_643 aw_35 (by decide +kernel) ⟨by decide, by decide⟩ rfl (Nat.le_of_ble_eq_true rfl) ⟨by decide, by decide⟩ dX7_edges_22 ?_
      rintro r_ M1_ ⟨rfl, rfl⟩
      refine j_if_eq X 35 (by decide) dX7_edges_25 (fun c_3 => False.elim (by revert c_3; decide)) (fun c_3 => ?_)
      refine j_aload_n X 1 rfl rfl dX7_edges_28 ?_
      refine j_ldc X (v := (-1000000002)) aw_560 dX7_edges_29 ?_
      refine j_callVI X (nn := 1) (As := [.int (-1000000002)]) (st := []) (ci := 7) (by decide) (wE_7 _ rfl) rfl aw_117 aw_118 (c_X7_refuse l D y ad M (-1000000002) 2 (by decide) (by decide)) aw_116 aw_119 aw_2 (by decide +kernel) ⟨by decide, by decide⟩ rfl (Nat.le_of_ble_eq_true rfl) ⟨by decide, by decide⟩ dX7_edges_31 ?_
      rintro r_ M1_ ⟨rfl, rfl⟩
      exact j_iret X hr hlocks dX7_edges_34 ⟨(by unfold sp_edges; (repeat' split) <;> first | rfl | omega | (exfalso; omega)), (sm_up sm_rf rfl)⟩
    · refine j_aald11 X (by decide) rfl (by unfold vp_in; decide) dX7_edges_19 ?_
      refine j_eqr (v := 72) rfl ?_
      refine j_astore_n X [(2, .ref (ad 72)), (0, .ref (ad 0)), (1, .int 1)] rfl (by decide) rfl dX7_edges_20 ?_
      refine j_aload_n X 0 rfl rfl dX7_edges_21 ?_
      refine j_callVNI X (nn := 0) (As := []) (st := []) (ci := 3) (by decide) (wE_3 _ rfl) rfl aw_641 aw_642 (c_isMissing0_72 l D y ad M hz.2.2.2.2.2.2.2.2.2.2.2.2.1) (List.mem_of_getElem? (i := 38) rfl) aw_643 aw_35 (by decide +kernel) ⟨by decide, by decide⟩ rfl (Nat.le_of_ble_eq_true rfl) ⟨by decide, by decide⟩ dX7_edges_22 ?_
      rintro r_ M1_ ⟨rfl, rfl⟩
      refine j_if_eq X 35 (by decide) dX7_edges_25 (fun c_4 => False.elim (by revert c_4; decide)) (fun c_4 => ?_)
      refine j_aload_n X 1 rfl rfl dX7_edges_28 ?_
      refine j_ldc X (v := (-1000000002)) aw_560 dX7_edges_29 ?_
      refine j_callVI X (nn := 1) (As := [.int (-1000000002)]) (st := []) (ci := 7) (by decide) (wE_7 _ rfl) rfl aw_117 aw_118 (c_X7_refuse l D y ad M (-1000000002) 2 (by decide) (by decide)) aw_116 aw_119 aw_2 (by decide +kernel) ⟨by decide, by decide⟩ rfl (Nat.le_of_ble_eq_true rfl) ⟨by decide, by decide⟩ dX7_edges_31 ?_
      rintro r_ M1_ ⟨rfl, rfl⟩
      exact j_iret X hr hlocks dX7_edges_34 ⟨(by unfold sp_edges; (repeat' split) <;> first | rfl | omega | (exfalso; omega)), (sm_up sm_rf rfl)⟩
    · refine j_aald11 X (by decide) rfl (by unfold vp_in; decide) dX7_edges_19 ?_
      refine j_eqr (v := 74) rfl ?_
      refine j_astore_n X [(2, .ref (ad 74)), (0, .ref (ad 0)), (1, .int 2)] rfl (by decide) rfl dX7_edges_20 ?_
      refine j_aload_n X 0 rfl rfl dX7_edges_21 ?_
      refine j_callVNI X (nn := 0) (As := []) (st := []) (ci := 3) (by decide) (wE_3 _ rfl) rfl aw_641 aw_642 (c_isMissing0_74 l D y ad M hz.2.2.2.2.2.2.2.2.2.2.2.2.2.1) (List.mem_of_getElem? (i := 38) rfl) aw_643 aw_35 (by decide +kernel) ⟨by decide, by decide⟩ rfl (Nat.le_of_ble_eq_true rfl) ⟨by decide, by decide⟩ dX7_edges_22 ?_
      rintro r_ M1_ ⟨rfl, rfl⟩
      refine j_if_eq X 35 (by decide) dX7_edges_25 (fun c_5 => False.elim (by revert c_5; decide)) (fun c_5 => ?_)
      refine j_aload_n X 1 rfl rfl dX7_edges_28 ?_
      refine j_ldc X (v := (-1000000002)) aw_560 dX7_edges_29 ?_
      refine j_callVI X (nn := 1) (As := [.int (-1000000002)]) (st := []) (ci := 7) (by decide) (wE_7 _ rfl) rfl aw_117 aw_118 (c_X7_refuse l D y ad M (-1000000002) 2 (by decide) (by decide)) aw_116 aw_119 aw_2 (by decide +kernel) ⟨by decide, by decide⟩ rfl (Nat.le_of_ble_eq_true rfl) ⟨by decide, by decide⟩ dX7_edges_31 ?_
      rintro r_ M1_ ⟨rfl, rfl⟩
      exact j_iret X hr hlocks dX7_edges_34 ⟨(by unfold sp_edges; (repeat' split) <;> first | rfl | omega | (exfalso; omega)), (sm_up sm_rf rfl)⟩
    · refine j_aald11 X (by decide) rfl (by unfold vp_in; decide) dX7_edges_19 ?_
      refine j_eqr (v := 76) rfl ?_
      refine j_astore_n X [(2, .ref (ad 76)), (0, .ref (ad 0)), (1, .int 3)] rfl (by decide) rfl dX7_edges_20 ?_
      refine j_aload_n X 0 rfl rfl dX7_edges_21 ?_
      refine j_callVNI X (nn := 0) (As := []) (st := []) (ci := 3) (by decide) (wE_3 _ rfl) rfl aw_641 aw_642 (c_isMissing0_76 l D y ad M hz.2.2.2.2.2.2.2.2.2.2.2.2.2.2.1) (List.mem_of_getElem? (i := 38) rfl) aw_643 aw_35 (by decide +kernel) ⟨by decide, by decide⟩ rfl (Nat.le_of_ble_eq_true rfl) ⟨by decide, by decide⟩ dX7_edges_22 ?_
      rintro r_ M1_ ⟨rfl, rfl⟩
      refine j_if_eq X 35 (by decide) dX7_edges_25 (fun c_6 => False.elim (by revert c_6; decide)) (fun c_6 => ?_)
      refine j_aload_n X 1 rfl rfl dX7_edges_28 ?_
      refine j_ldc X (v := (-1000000002)) aw_560 dX7_edges_29 ?_
      refine j_callVI X (nn := 1) (As := [.int (-1000000002)]) (st := []) (ci := 7) (by decide) (wE_7 _ rfl) rfl aw_117 aw_118 (c_X7_refuse l D y ad M (-1000000002) 2 (by decide) (by decide)) aw_116 aw_119 aw_2 (by decide +kernel) ⟨by decide, by decide⟩ rfl (Nat.le_of_ble_eq_true rfl) ⟨by decide, by decide⟩ dX7_edges_31 ?_
      rintro r_ M1_ ⟨rfl, rfl⟩
      exact j_iret X hr hlocks dX7_edges_34 ⟨(by unfold sp_edges; (repeat' split) <;> first | rfl | omega | (exfalso; omega)), (sm_up sm_rf rfl)⟩
  · refine j_if_ne X 14 (by decide) dX7_edges_4 (fun c_7 => False.elim (by revert c_7; decide)) (fun c_7 => ?_)
    refine j_aload_n X 0 rfl rfl dX7_edges_7 ?_
    refine j_ldc X (v := (-1000000001)) aw_108 dX7_edges_8 ?_
    refine j_callVI X (nn := 1) (As := [.int (-1000000001)]) (st := []) (ci := 7) (by decide) (wE_7 _ rfl) rfl aw_117 aw_118 (c_X7_refuse l D y ad M (-1000000001) 1 (by decide) (by decide)) aw_116 aw_119 aw_2 (by decide +kernel) ⟨by decide, by decide⟩ rfl (Nat.le_of_ble_eq_true rfl) ⟨by decide, by decide⟩ dX7_edges_10 ?_
    rintro r_ M1_ ⟨rfl, rfl⟩
    exact j_iret X hr hlocks dX7_edges_13 ⟨(by unfold sp_edges; (repeat' split) <;> first | rfl | omega | (exfalso; omega)), (sm_up sm_rf rfl)⟩
set_option maxRecDepth 100000 in
set_option maxHeartbeats 4000000 in
theorem c0_X7_judge (l : Launch) (D : va_G) (y : wY) (ad : Nat → Nat) (M : Mem) (hz : Z0 M) (sh : Int32) : MI l D y ad yX7_judge (Cond.code yX7_judge cX7_judge 5 (some .int)) 6 M [.ref (ad 0), .int sh] (fun r M' => sp_judge sh = r ∧ sm (fun b _ => decide (b < 79)) M M') := by
  refine MI_of (by decide) (Nat.le_of_ble_eq_true rfl) ?_
  intro p e s m args below meth c X hr hlocks
  refine j_lv (lv1 := [(0, .ref (ad 0)), (1, .int sh)]) [0, 1] rfl ?_
  refine j_iload_n X 1 rfl rfl dX7_judge_0 ?_
  refine j_callSI X (nn := 1) (As := [.int sh]) (st := []) aw_639 (c_X7_isSheet l D y ad M sh) aw_638 aw_640 aw_2 (by decide +kernel) ⟨by decide, by decide⟩ rfl (Nat.le_of_ble_eq_true rfl) ⟨by decide, by decide⟩ dX7_judge_1 ?_
  rintro r_ M1_ (⟨rfl, rfl, h_1⟩ | ⟨rfl, rfl, h_1⟩)
  · refine j_if_ne X 14 (by decide) dX7_judge_4 (fun c_2 => ?_) (fun c_2 => False.elim (by revert c_2; decide))
    refine j_aload_n X 0 rfl rfl dX7_judge_14 ?_
    refine j_get X (by decide) (wE_7 _ rfl) rfl awF7 5 (by decide) aw_31 rfl (v := .ref (ad 69)) rfl dX7_judge_15 ?_
    refine j_iload_n X 1 rfl rfl dX7_judge_18 ?_
    rcases is_0_3 h_1 with rfl | rfl | rfl | rfl
    · refine j_aald11 X (by decide) rfl (by unfold vp_in; decide) dX7_judge_19 ?_
      refine j_eqr (v := 70) rfl ?_
      refine j_astore_n X [(2, .ref (ad 70)), (0, .ref (ad 0)), (1, .int 0)] rfl (by decide) rfl dX7_judge_20 ?_
      refine j_aload_n X 0 rfl rfl dX7_judge_21 ?_
      refine j_callVNI X (nn := 0) (As := []) (st := []) (ci := 3) (by decide) (wE_3 _ rfl) rfl aw_641 aw_642 (c_isMissing0_70 l D y ad M hz.2.2.2.2.2.2.2.2.2.2.2.1) (List.mem_of_getElem? (i := 38) rfl) aw_643 aw_35 (by decide +kernel) ⟨by decide, by decide⟩ rfl (Nat.le_of_ble_eq_true rfl) ⟨by decide, by decide⟩ dX7_judge_22 ?_
      rintro r_ M1_ ⟨rfl, rfl⟩
      refine j_if_eq X 35 (by decide) dX7_judge_25 (fun c_3 => False.elim (by revert c_3; decide)) (fun c_3 => ?_)
      refine j_aload_n X 1 rfl rfl dX7_judge_28 ?_
      refine j_ldc X (v := (-1000000002)) aw_560 dX7_judge_29 ?_
      refine j_callVI X (nn := 1) (As := [.int (-1000000002)]) (st := []) (ci := 7) (by decide) (wE_7 _ rfl) rfl aw_117 aw_118 (c_X7_refuse l D y ad M (-1000000002) 2 (by decide) (by decide)) aw_116 aw_119 aw_2 (by decide +kernel) ⟨by decide, by decide⟩ rfl (Nat.le_of_ble_eq_true rfl) ⟨by decide, by decide⟩ dX7_judge_31 ?_
      rintro r_ M1_ ⟨rfl, rfl⟩
      exact j_iret X hr hlocks dX7_judge_34 ⟨(by unfold sp_judge; (repeat' split) <;> first | rfl | omega | (exfalso; omega)), (sm_up sm_rf rfl)⟩
    · refine j_aald11 X (by decide) rfl (by unfold vp_in; decide) dX7_judge_19 ?_
      refine j_eqr (v := 72) rfl ?_
      refine j_astore_n X [(2, .ref (ad 72)), (0, .ref (ad 0)), (1, .int 1)] rfl (by decide) rfl dX7_judge_20 ?_
      refine j_aload_n X 0 rfl rfl dX7_judge_21 ?_
      refine j_callVNI X (nn := 0) (As := []) (st := []) (ci := 3) (by decide) (wE_3 _ rfl) rfl aw_641 aw_642 (c_isMissing0_72 l D y ad M hz.2.2.2.2.2.2.2.2.2.2.2.2.1) (List.mem_of_getElem? (i := 38) rfl) aw_643 aw_35 (by decide +kernel) ⟨by decide, by decide⟩ rfl (Nat.le_of_ble_eq_true rfl) ⟨by decide, by decide⟩ dX7_judge_22 ?_
      rintro r_ M1_ ⟨rfl, rfl⟩
      refine j_if_eq X 35 (by decide) dX7_judge_25 (fun c_4 => False.elim (by revert c_4; decide)) (fun c_4 => ?_)
      refine j_aload_n X 1 rfl rfl dX7_judge_28 ?_
      refine j_ldc X (v := (-1000000002)) aw_560 dX7_judge_29 ?_
      refine j_callVI X (nn := 1) (As := [.int (-1000000002)]) (st := []) (ci := 7) (by decide) (wE_7 _ rfl) rfl aw_117 aw_118 (c_X7_refuse l D y ad M (-1000000002) 2 (by decide) (by decide)) aw_116 aw_119 aw_2 (by decide +kernel) ⟨by decide, by decide⟩ rfl (Nat.le_of_ble_eq_true rfl) ⟨by decide, by decide⟩ dX7_judge_31 ?_
      rintro r_ M1_ ⟨rfl, rfl⟩
      exact j_iret X hr hlocks dX7_judge_34 ⟨(by unfold sp_judge; (repeat' split) <;> first | rfl | omega | (exfalso; omega)), (sm_up sm_rf rfl)⟩
    · refine j_aald11 X (by decide) rfl (by unfold vp_in; decide) dX7_judge_19 ?_
      refine j_eqr (v := 74) rfl ?_
      refine j_astore_n X [(2, .ref (ad 74)), (0, .ref (ad 0)), (1, .int 2)] rfl (by decide) rfl dX7_judge_20 ?_
      refine j_aload_n X 0 rfl rfl dX7_judge_21 ?_
      refine j_callVNI X (nn := 0) (As := []) (st := []) (ci := 3) (by decide) (wE_3 _ rfl) rfl aw_641 aw_642 (c_isMissing0_74 l D y ad M hz.2.2.2.2.2.2.2.2.2.2.2.2.2.1) (List.mem_of_getElem? (i := 38) rfl) aw_643 aw_35 (by decide +kernel) ⟨by decide, by decide⟩ rfl (Nat.le_of_ble_eq_true rfl) ⟨by decide, by decide⟩ dX7_judge_22 ?_
      rintro r_ M1_ ⟨rfl, rfl⟩
      refine j_if_eq X 35 (by decide) dX7_judge_25 (fun c_5 => False.elim (by revert c_5; decide)) (fun c_5 => ?_)
      refine j_aload_n X 1 rfl rfl dX7_judge_28 ?_
      refine j_ldc X (v := (-1000000002)) aw_560 dX7_judge_29 ?_
      refine j_callVI X (nn := 1) (As := [.int (-1000000002)]) (st := []) (ci := 7) (by decide) (wE_7 _ rfl) rfl aw_117 aw_118 (c_X7_refuse l D y ad M (-1000000002) 2 (by decide) (by decide)) aw_116 aw_119 aw_2 (by decide +kernel) ⟨by decide, by decide⟩ rfl (Nat.le_of_ble_eq_true rfl) ⟨by decide, by decide⟩ dX7_judge_31 ?_
      rintro r_ M1_ ⟨rfl, rfl⟩
      exact j_iret X hr hlocks dX7_judge_34 ⟨(by unfold sp_judge; (repeat' split) <;> first | rfl | omega | (exfalso; omega)), (sm_up sm_rf rfl)⟩
    · refine j_aald11 X (by decide) rfl (by unfold vp_in; decide) dX7_judge_19 ?_
      refine j_eqr (v := 76) rfl ?_
      refine j_astore_n X [(2, .ref (ad 76)), (0, .ref (ad 0)), (1, .int 3)] rfl (by decide) rfl dX7_judge_20 ?_
      refine j_aload_n X 0 rfl rfl dX7_judge_21 ?_
      refine j_callVNI X (nn := 0) (As := []) (st := []) (ci := 3) (by decide) (wE_3 _ rfl) rfl aw_641 aw_642 (c_isMissing0_76 l D y ad M hz.2.2.2.2.2.2.2.2.2.2.2.2.2.2.1) (List.mem_of_getElem? (i := 38) rfl) aw_643 aw_35 (by decide +kernel) ⟨by decide, by decide⟩ rfl (Nat.le_of_ble_eq_true rfl) ⟨by decide, by decide⟩ dX7_judge_22 ?_
      rintro r_ M1_ ⟨rfl, rfl⟩
      refine j_if_eq X 35 (by decide) dX7_judge_25 (fun c_6 => False.elim (by revert c_6; decide)) (fun c_6 => ?_)
      refine j_aload_n X 1 rfl rfl dX7_judge_28 ?_
      refine j_ldc X (v := (-1000000002)) aw_560 dX7_judge_29 ?_
      refine j_callVI X (nn := 1) (As := [.int (-1000000002)]) (st := []) (ci := 7) (by decide) (wE_7 _ rfl) rfl aw_117 aw_118 (c_X7_refuse l D y ad M (-1000000002) 2 (by decide) (by decide)) aw_116 aw_119 aw_2 (by decide +kernel) ⟨by decide, by decide⟩ rfl (Nat.le_of_ble_eq_true rfl) ⟨by decide, by decide⟩ dX7_judge_31 ?_
      rintro r_ M1_ ⟨rfl, rfl⟩
      exact j_iret X hr hlocks dX7_judge_34 ⟨(by unfold sp_judge; (repeat' split) <;> first | rfl | omega | (exfalso; omega)), (sm_up sm_rf rfl)⟩
  · refine j_if_ne X 14 (by decide) dX7_judge_4 (fun c_7 => False.elim (by revert c_7; decide)) (fun c_7 => ?_)
    refine j_aload_n X 0 rfl rfl dX7_judge_7 ?_
    refine j_ldc X (v := (-1000000001)) aw_108 dX7_judge_8 ?_
    refine j_callVI X (nn := 1) (As := [.int (-1000000001)]) (st := []) (ci := 7) (by decide) (wE_7 _ rfl) rfl aw_117 aw_118 (c_X7_refuse l D y ad M (-1000000001) 1 (by decide) (by decide)) aw_116 aw_119 aw_2 (by decide +kernel) ⟨by decide, by decide⟩ rfl (Nat.le_of_ble_eq_true rfl) ⟨by decide, by decide⟩ dX7_judge_10 ?_
    rintro r_ M1_ ⟨rfl, rfl⟩
    exact j_iret X hr hlocks dX7_judge_13 ⟨(by unfold sp_judge; (repeat' split) <;> first | rfl | omega | (exfalso; omega)), (sm_up sm_rf rfl)⟩
set_option maxRecDepth 100000 in
set_option maxHeartbeats 4000000 in
theorem c0_X7_sparks (l : Launch) (D : va_G) (y : wY) (ad : Nat → Nat) (M : Mem) (hz : Z0 M) (sh what : Int32) : MI l D y ad yX7_sparks (Cond.code yX7_sparks cX7_sparks 6 (some .int)) 6 M [.ref (ad 0), .int sh, .int what] (fun r M' => sp_sparks sh what = r ∧ sm (fun b _ => decide (b < 79)) M M') := by
  refine MI_of (by decide) (Nat.le_of_ble_eq_true rfl) ?_
  intro p e s m args below meth c X hr hlocks
  refine j_lv (lv1 := [(0, .ref (ad 0)), (1, .int sh), (2, .int what)]) [0, 1, 2] rfl ?_
  refine j_iload_n X 1 rfl rfl dX7_sparks_0 ?_
  refine j_callSI X (nn := 1) (As := [.int sh]) (st := []) aw_639 (c_X7_isSheet l D y ad M sh) aw_638 aw_640 aw_2 (by decide +kernel) ⟨by decide, by decide⟩ rfl (Nat.le_of_ble_eq_true rfl) ⟨by decide, by decide⟩ dX7_sparks_1 ?_
  rintro r_ M1_ (⟨rfl, rfl, h_1⟩ | ⟨rfl, rfl, h_1⟩)
  · refine j_if_eq X 16 (by decide) dX7_sparks_4 (fun c_2 => False.elim (by revert c_2; decide)) (fun c_2 => ?_)
    refine j_iload_n X 2 rfl rfl dX7_sparks_7 ?_
    refine j_iconst X (v := 0) (by decide) dX7_sparks_8 ?_
    refine j_iconst X (v := 1) (by decide) dX7_sparks_9 ?_
    refine j_callSI X (nn := 3) (As := [.int what, .int 0, .int 1]) (st := []) aw_110 (c_X7_isWithin l D y ad M what 0 1 0 1 (by decide) (by decide)) aw_109 aw_111 aw_2 (by decide +kernel) ⟨by decide, by decide⟩ rfl (Nat.le_of_ble_eq_true rfl) ⟨by decide, by decide⟩ dX7_sparks_10 ?_
    rintro r_ M1_ (⟨rfl, rfl, h_3⟩ | ⟨rfl, rfl, h_3⟩)
    · refine j_if_ne X 23 (by decide) dX7_sparks_13 (fun c_4 => ?_) (fun c_4 => False.elim (by revert c_4; decide))
      refine j_aload_n X 0 rfl rfl dX7_sparks_23 ?_
      refine j_get X (by decide) (wE_7 _ rfl) rfl awF7 5 (by decide) aw_31 rfl (v := .ref (ad 69)) rfl dX7_sparks_24 ?_
      refine j_iload_n X 1 rfl rfl dX7_sparks_27 ?_
      rcases is_0_3 h_1 with rfl | rfl | rfl | rfl
      · refine j_aald11 X (by decide) rfl (by unfold vp_in; decide) dX7_sparks_28 ?_
        refine j_eqr (v := 70) rfl ?_
        refine j_astore_n X [(3, .ref (ad 70)), (0, .ref (ad 0)), (1, .int 0), (2, .int what)] rfl (by decide) rfl dX7_sparks_29 ?_
        refine j_aload_n X 0 rfl rfl dX7_sparks_30 ?_
        refine j_callVNI X (nn := 0) (As := []) (st := []) (ci := 3) (by decide) (wE_3 _ rfl) rfl aw_641 aw_642 (c_isMissing0_70 l D y ad M hz.2.2.2.2.2.2.2.2.2.2.2.1) (List.mem_of_getElem? (i := 38) rfl) aw_643 aw_35 (by decide +kernel) ⟨by decide, by decide⟩ rfl (Nat.le_of_ble_eq_true rfl) ⟨by decide, by decide⟩ dX7_sparks_31 ?_
        rintro r_ M1_ ⟨rfl, rfl⟩
        refine j_if_ne X 54 (by decide) dX7_sparks_34 (fun c_5 => ?_) (fun c_5 => False.elim (by revert c_5; decide))
        refine j_aload_n X 1 rfl rfl dX7_sparks_54 ?_
        refine j_ldc X (v := (-1000000002)) aw_560 dX7_sparks_55 ?_
        refine j_callVI X (nn := 1) (As := [.int (-1000000002)]) (st := []) (ci := 7) (by decide) (wE_7 _ rfl) rfl aw_117 aw_118 (c_X7_refuse l D y ad M (-1000000002) 2 (by decide) (by decide)) aw_116 aw_119 aw_2 (by decide +kernel) ⟨by decide, by decide⟩ rfl (Nat.le_of_ble_eq_true rfl) ⟨by decide, by decide⟩ dX7_sparks_57 ?_
        rintro r_ M1_ ⟨rfl, rfl⟩
        exact j_iret X hr hlocks dX7_sparks_60 ⟨(by unfold sp_sparks; (repeat' split) <;> first | rfl | omega | (exfalso; omega)), (sm_up sm_rf rfl)⟩
      · refine j_aald11 X (by decide) rfl (by unfold vp_in; decide) dX7_sparks_28 ?_
        refine j_eqr (v := 72) rfl ?_
        refine j_astore_n X [(3, .ref (ad 72)), (0, .ref (ad 0)), (1, .int 1), (2, .int what)] rfl (by decide) rfl dX7_sparks_29 ?_
        refine j_aload_n X 0 rfl rfl dX7_sparks_30 ?_
        refine j_callVNI X (nn := 0) (As := []) (st := []) (ci := 3) (by decide) (wE_3 _ rfl) rfl aw_641 aw_642 (c_isMissing0_72 l D y ad M hz.2.2.2.2.2.2.2.2.2.2.2.2.1) (List.mem_of_getElem? (i := 38) rfl) aw_643 aw_35 (by decide +kernel) ⟨by decide, by decide⟩ rfl (Nat.le_of_ble_eq_true rfl) ⟨by decide, by decide⟩ dX7_sparks_31 ?_
        rintro r_ M1_ ⟨rfl, rfl⟩
        refine j_if_ne X 54 (by decide) dX7_sparks_34 (fun c_6 => ?_) (fun c_6 => False.elim (by revert c_6; decide))
        refine j_aload_n X 1 rfl rfl dX7_sparks_54 ?_
        refine j_ldc X (v := (-1000000002)) aw_560 dX7_sparks_55 ?_
        refine j_callVI X (nn := 1) (As := [.int (-1000000002)]) (st := []) (ci := 7) (by decide) (wE_7 _ rfl) rfl aw_117 aw_118 (c_X7_refuse l D y ad M (-1000000002) 2 (by decide) (by decide)) aw_116 aw_119 aw_2 (by decide +kernel) ⟨by decide, by decide⟩ rfl (Nat.le_of_ble_eq_true rfl) ⟨by decide, by decide⟩ dX7_sparks_57 ?_
        rintro r_ M1_ ⟨rfl, rfl⟩
        exact j_iret X hr hlocks dX7_sparks_60 ⟨(by unfold sp_sparks; (repeat' split) <;> first | rfl | omega | (exfalso; omega)), (sm_up sm_rf rfl)⟩
      · refine j_aald11 X (by decide) rfl (by unfold vp_in; decide) dX7_sparks_28 ?_
        refine j_eqr (v := 74) rfl ?_
        refine j_astore_n X [(3, .ref (ad 74)), (0, .ref (ad 0)), (1, .int 2), (2, .int what)] rfl (by decide) rfl dX7_sparks_29 ?_
        refine j_aload_n X 0 rfl rfl dX7_sparks_30 ?_
        refine j_callVNI X (nn := 0) (As := []) (st := []) (ci := 3) (by decide) (wE_3 _ rfl) rfl aw_641 aw_642 (c_isMissing0_74 l D y ad M hz.2.2.2.2.2.2.2.2.2.2.2.2.2.1) (List.mem_of_getElem? (i := 38) rfl) aw_643 aw_35 (by decide +kernel) ⟨by decide, by decide⟩ rfl (Nat.le_of_ble_eq_true rfl) ⟨by decide, by decide⟩ dX7_sparks_31 ?_
        rintro r_ M1_ ⟨rfl, rfl⟩
        refine j_if_ne X 54 (by decide) dX7_sparks_34 (fun c_7 => ?_) (fun c_7 => False.elim (by revert c_7; decide))
        refine j_aload_n X 1 rfl rfl dX7_sparks_54 ?_
        refine j_ldc X (v := (-1000000002)) aw_560 dX7_sparks_55 ?_
        refine j_callVI X (nn := 1) (As := [.int (-1000000002)]) (st := []) (ci := 7) (by decide) (wE_7 _ rfl) rfl aw_117 aw_118 (c_X7_refuse l D y ad M (-1000000002) 2 (by decide) (by decide)) aw_116 aw_119 aw_2 (by decide +kernel) ⟨by decide, by decide⟩ rfl (Nat.le_of_ble_eq_true rfl) ⟨by decide, by decide⟩ dX7_sparks_57 ?_
        rintro r_ M1_ ⟨rfl, rfl⟩
        exact j_iret X hr hlocks dX7_sparks_60 ⟨(by unfold sp_sparks; (repeat' split) <;> first | rfl | omega | (exfalso; omega)), (sm_up sm_rf rfl)⟩
      · refine j_aald11 X (by decide) rfl (by unfold vp_in; decide) dX7_sparks_28 ?_
        refine j_eqr (v := 76) rfl ?_
        refine j_astore_n X [(3, .ref (ad 76)), (0, .ref (ad 0)), (1, .int 3), (2, .int what)] rfl (by decide) rfl dX7_sparks_29 ?_
        refine j_aload_n X 0 rfl rfl dX7_sparks_30 ?_
        refine j_callVNI X (nn := 0) (As := []) (st := []) (ci := 3) (by decide) (wE_3 _ rfl) rfl aw_641 aw_642 (c_isMissing0_76 l D y ad M hz.2.2.2.2.2.2.2.2.2.2.2.2.2.2.1) (List.mem_of_getElem? (i := 38) rfl) aw_643 aw_35 (by decide +kernel) ⟨by decide, by decide⟩ rfl (Nat.le_of_ble_eq_true rfl) ⟨by decide, by decide⟩ dX7_sparks_31 ?_
        rintro r_ M1_ ⟨rfl, rfl⟩
        refine j_if_ne X 54 (by decide) dX7_sparks_34 (fun c_8 => ?_) (fun c_8 => False.elim (by revert c_8; decide))
        refine j_aload_n X 1 rfl rfl dX7_sparks_54 ?_
        refine j_ldc X (v := (-1000000002)) aw_560 dX7_sparks_55 ?_
        refine j_callVI X (nn := 1) (As := [.int (-1000000002)]) (st := []) (ci := 7) (by decide) (wE_7 _ rfl) rfl aw_117 aw_118 (c_X7_refuse l D y ad M (-1000000002) 2 (by decide) (by decide)) aw_116 aw_119 aw_2 (by decide +kernel) ⟨by decide, by decide⟩ rfl (Nat.le_of_ble_eq_true rfl) ⟨by decide, by decide⟩ dX7_sparks_57 ?_
        rintro r_ M1_ ⟨rfl, rfl⟩
        exact j_iret X hr hlocks dX7_sparks_60 ⟨(by unfold sp_sparks; (repeat' split) <;> first | rfl | omega | (exfalso; omega)), (sm_up sm_rf rfl)⟩
    · refine j_if_ne X 23 (by decide) dX7_sparks_13 (fun c_9 => False.elim (by revert c_9; decide)) (fun c_9 => ?_)
      refine j_aload_n X 0 rfl rfl dX7_sparks_16 ?_
      refine j_ldc X (v := (-1000000001)) aw_108 dX7_sparks_17 ?_
      refine j_callVI X (nn := 1) (As := [.int (-1000000001)]) (st := []) (ci := 7) (by decide) (wE_7 _ rfl) rfl aw_117 aw_118 (c_X7_refuse l D y ad M (-1000000001) 1 (by decide) (by decide)) aw_116 aw_119 aw_2 (by decide +kernel) ⟨by decide, by decide⟩ rfl (Nat.le_of_ble_eq_true rfl) ⟨by decide, by decide⟩ dX7_sparks_19 ?_
      rintro r_ M1_ ⟨rfl, rfl⟩
      exact j_iret X hr hlocks dX7_sparks_22 ⟨(by unfold sp_sparks; (repeat' split) <;> first | rfl | omega | (exfalso; omega)), (sm_up sm_rf rfl)⟩
  · refine j_if_eq X 16 (by decide) dX7_sparks_4 (fun c_10 => ?_) (fun c_10 => False.elim (by revert c_10; decide))
    refine j_aload_n X 0 rfl rfl dX7_sparks_16 ?_
    refine j_ldc X (v := (-1000000001)) aw_108 dX7_sparks_17 ?_
    refine j_callVI X (nn := 1) (As := [.int (-1000000001)]) (st := []) (ci := 7) (by decide) (wE_7 _ rfl) rfl aw_117 aw_118 (c_X7_refuse l D y ad M (-1000000001) 1 (by decide) (by decide)) aw_116 aw_119 aw_2 (by decide +kernel) ⟨by decide, by decide⟩ rfl (Nat.le_of_ble_eq_true rfl) ⟨by decide, by decide⟩ dX7_sparks_19 ?_
    rintro r_ M1_ ⟨rfl, rfl⟩
    exact j_iret X hr hlocks dX7_sparks_22 ⟨(by unfold sp_sparks; (repeat' split) <;> first | rfl | omega | (exfalso; omega)), (sm_up sm_rf rfl)⟩
set_option maxRecDepth 100000 in
set_option maxHeartbeats 4000000 in
theorem c0_X7_move (l : Launch) (D : va_G) (y : wY) (ad : Nat → Nat) (M : Mem) (hz : Z0 M) (sh i o j n : Int32) : MI l D y ad yX7_move (Cond.code yX7_move cX7_move 8 (some .int)) 6 M [.ref (ad 0), .int sh, .int i, .int o, .int j, .int n] (fun r M' => sp_move sh i o j n = r ∧ sm (fun b _ => decide (b < 79)) M M') := by
  refine MI_of (by decide) (Nat.le_of_ble_eq_true rfl) ?_
  intro p e s m args below meth c X hr hlocks
  refine j_lv (lv1 := [(0, .ref (ad 0)), (1, .int sh), (2, .int i), (3, .int o), (4, .int j), (5, .int n)]) [0, 1, 2, 3, 4, 5] rfl ?_
  refine j_iload_n X 1 rfl rfl dX7_move_0 ?_
  refine j_callSI X (nn := 1) (As := [.int sh]) (st := []) aw_639 (c_X7_isSheet l D y ad M sh) aw_638 aw_640 aw_2 (by decide +kernel) ⟨by decide, by decide⟩ rfl (Nat.le_of_ble_eq_true rfl) ⟨by decide, by decide⟩ dX7_move_1 ?_
  rintro r_ M1_ (⟨rfl, rfl, h_1⟩ | ⟨rfl, rfl, h_1⟩)
  · refine j_if_eq X 14 (by decide) dX7_move_4 (fun c_2 => False.elim (by revert c_2; decide)) (fun c_2 => ?_)
    refine j_iload_n X 3 rfl rfl dX7_move_7 ?_
    refine j_callSI X (nn := 1) (As := [.int o]) (st := []) aw_639 (c_X7_isSheet l D y ad M o) aw_638 aw_640 aw_2 (by decide +kernel) ⟨by decide, by decide⟩ rfl (Nat.le_of_ble_eq_true rfl) ⟨by decide, by decide⟩ dX7_move_8 ?_
    rintro r_ M1_ (⟨rfl, rfl, h_3⟩ | ⟨rfl, rfl, h_3⟩)
    · refine j_if_ne X 21 (by decide) dX7_move_11 (fun c_4 => ?_) (fun c_4 => False.elim (by revert c_4; decide))
      refine j_aload_n X 0 rfl rfl dX7_move_21 ?_
      refine j_get X (by decide) (wE_7 _ rfl) rfl awF7 5 (by decide) aw_31 rfl (v := .ref (ad 69)) rfl dX7_move_22 ?_
      refine j_iload_n X 1 rfl rfl dX7_move_25 ?_
      rcases is_0_3 h_1 with rfl | rfl | rfl | rfl
      · refine j_aald11 X (by decide) rfl (by unfold vp_in; decide) dX7_move_26 ?_
        refine j_eqr (v := 70) rfl ?_
        refine j_astore X [(6, .ref (ad 70)), (0, .ref (ad 0)), (1, .int 0), (2, .int i), (3, .int o), (4, .int j), (5, .int n)] (by decide) rfl dX7_move_27 ?_
        refine j_aload_n X 1 rfl rfl dX7_move_29 ?_
        refine j_get X (by decide) (wE_7 _ rfl) rfl awF7 5 (by decide) aw_31 rfl (v := .ref (ad 69)) rfl dX7_move_30 ?_
        refine j_iload_n X 4 rfl rfl dX7_move_33 ?_
        rcases is_0_3 h_3 with rfl | rfl | rfl | rfl
        · refine j_aald11 X (by decide) rfl (by unfold vp_in; decide) dX7_move_34 ?_
          refine j_eqr (v := 70) rfl ?_
          refine j_astore X [(7, .ref (ad 70)), (6, .ref (ad 70)), (0, .ref (ad 0)), (1, .int 0), (2, .int i), (3, .int 0), (4, .int j), (5, .int n)] (by decide) rfl dX7_move_35 ?_
          refine j_aload X 1 rfl dX7_move_37 ?_
          refine j_callVNI X (nn := 0) (As := []) (st := []) (ci := 3) (by decide) (wE_3 _ rfl) rfl aw_641 aw_642 (c_isMissing0_70 l D y ad M hz.2.2.2.2.2.2.2.2.2.2.2.1) (List.mem_of_getElem? (i := 38) rfl) aw_643 aw_35 (by decide +kernel) ⟨by decide, by decide⟩ rfl (Nat.le_of_ble_eq_true rfl) ⟨by decide, by decide⟩ dX7_move_39 ?_
          rintro r_ M1_ ⟨rfl, rfl⟩
          refine j_if_ne X 53 (by decide) dX7_move_42 (fun c_5 => ?_) (fun c_5 => False.elim (by revert c_5; decide))
          refine j_aload_n X 2 rfl rfl dX7_move_53 ?_
          refine j_ldc X (v := (-1000000002)) aw_560 dX7_move_54 ?_
          refine j_callVI X (nn := 1) (As := [.int (-1000000002)]) (st := []) (ci := 7) (by decide) (wE_7 _ rfl) rfl aw_117 aw_118 (c_X7_refuse l D y ad M (-1000000002) 2 (by decide) (by decide)) aw_116 aw_119 aw_2 (by decide +kernel) ⟨by decide, by decide⟩ rfl (Nat.le_of_ble_eq_true rfl) ⟨by decide, by decide⟩ dX7_move_56 ?_
          rintro r_ M1_ ⟨rfl, rfl⟩
          exact j_iret X hr hlocks dX7_move_59 ⟨(by unfold sp_move; (repeat' split) <;> first | rfl | omega | (exfalso; omega)), (sm_up sm_rf rfl)⟩
        · refine j_aald11 X (by decide) rfl (by unfold vp_in; decide) dX7_move_34 ?_
          refine j_eqr (v := 72) rfl ?_
          refine j_astore X [(7, .ref (ad 72)), (6, .ref (ad 70)), (0, .ref (ad 0)), (1, .int 0), (2, .int i), (3, .int 1), (4, .int j), (5, .int n)] (by decide) rfl dX7_move_35 ?_
          refine j_aload X 1 rfl dX7_move_37 ?_
          refine j_callVNI X (nn := 0) (As := []) (st := []) (ci := 3) (by decide) (wE_3 _ rfl) rfl aw_641 aw_642 (c_isMissing0_70 l D y ad M hz.2.2.2.2.2.2.2.2.2.2.2.1) (List.mem_of_getElem? (i := 38) rfl) aw_643 aw_35 (by decide +kernel) ⟨by decide, by decide⟩ rfl (Nat.le_of_ble_eq_true rfl) ⟨by decide, by decide⟩ dX7_move_39 ?_
          rintro r_ M1_ ⟨rfl, rfl⟩
          refine j_if_ne X 53 (by decide) dX7_move_42 (fun c_6 => ?_) (fun c_6 => False.elim (by revert c_6; decide))
          refine j_aload_n X 2 rfl rfl dX7_move_53 ?_
          refine j_ldc X (v := (-1000000002)) aw_560 dX7_move_54 ?_
          refine j_callVI X (nn := 1) (As := [.int (-1000000002)]) (st := []) (ci := 7) (by decide) (wE_7 _ rfl) rfl aw_117 aw_118 (c_X7_refuse l D y ad M (-1000000002) 2 (by decide) (by decide)) aw_116 aw_119 aw_2 (by decide +kernel) ⟨by decide, by decide⟩ rfl (Nat.le_of_ble_eq_true rfl) ⟨by decide, by decide⟩ dX7_move_56 ?_
          rintro r_ M1_ ⟨rfl, rfl⟩
          exact j_iret X hr hlocks dX7_move_59 ⟨(by unfold sp_move; (repeat' split) <;> first | rfl | omega | (exfalso; omega)), (sm_up sm_rf rfl)⟩
        · refine j_aald11 X (by decide) rfl (by unfold vp_in; decide) dX7_move_34 ?_
          refine j_eqr (v := 74) rfl ?_
          refine j_astore X [(7, .ref (ad 74)), (6, .ref (ad 70)), (0, .ref (ad 0)), (1, .int 0), (2, .int i), (3, .int 2), (4, .int j), (5, .int n)] (by decide) rfl dX7_move_35 ?_
          refine j_aload X 1 rfl dX7_move_37 ?_
          refine j_callVNI X (nn := 0) (As := []) (st := []) (ci := 3) (by decide) (wE_3 _ rfl) rfl aw_641 aw_642 (c_isMissing0_70 l D y ad M hz.2.2.2.2.2.2.2.2.2.2.2.1) (List.mem_of_getElem? (i := 38) rfl) aw_643 aw_35 (by decide +kernel) ⟨by decide, by decide⟩ rfl (Nat.le_of_ble_eq_true rfl) ⟨by decide, by decide⟩ dX7_move_39 ?_
          rintro r_ M1_ ⟨rfl, rfl⟩
          refine j_if_ne X 53 (by decide) dX7_move_42 (fun c_7 => ?_) (fun c_7 => False.elim (by revert c_7; decide))
          refine j_aload_n X 2 rfl rfl dX7_move_53 ?_
          refine j_ldc X (v := (-1000000002)) aw_560 dX7_move_54 ?_
          refine j_callVI X (nn := 1) (As := [.int (-1000000002)]) (st := []) (ci := 7) (by decide) (wE_7 _ rfl) rfl aw_117 aw_118 (c_X7_refuse l D y ad M (-1000000002) 2 (by decide) (by decide)) aw_116 aw_119 aw_2 (by decide +kernel) ⟨by decide, by decide⟩ rfl (Nat.le_of_ble_eq_true rfl) ⟨by decide, by decide⟩ dX7_move_56 ?_
          rintro r_ M1_ ⟨rfl, rfl⟩
          exact j_iret X hr hlocks dX7_move_59 ⟨(by unfold sp_move; (repeat' split) <;> first | rfl | omega | (exfalso; omega)), (sm_up sm_rf rfl)⟩
        · refine j_aald11 X (by decide) rfl (by unfold vp_in; decide) dX7_move_34 ?_
          refine j_eqr (v := 76) rfl ?_
          refine j_astore X [(7, .ref (ad 76)), (6, .ref (ad 70)), (0, .ref (ad 0)), (1, .int 0), (2, .int i), (3, .int 3), (4, .int j), (5, .int n)] (by decide) rfl dX7_move_35 ?_
          refine j_aload X 1 rfl dX7_move_37 ?_
          refine j_callVNI X (nn := 0) (As := []) (st := []) (ci := 3) (by decide) (wE_3 _ rfl) rfl aw_641 aw_642 (c_isMissing0_70 l D y ad M hz.2.2.2.2.2.2.2.2.2.2.2.1) (List.mem_of_getElem? (i := 38) rfl) aw_643 aw_35 (by decide +kernel) ⟨by decide, by decide⟩ rfl (Nat.le_of_ble_eq_true rfl) ⟨by decide, by decide⟩ dX7_move_39 ?_
          rintro r_ M1_ ⟨rfl, rfl⟩
          refine j_if_ne X 53 (by decide) dX7_move_42 (fun c_8 => ?_) (fun c_8 => False.elim (by revert c_8; decide))
          refine j_aload_n X 2 rfl rfl dX7_move_53 ?_
          refine j_ldc X (v := (-1000000002)) aw_560 dX7_move_54 ?_
          refine j_callVI X (nn := 1) (As := [.int (-1000000002)]) (st := []) (ci := 7) (by decide) (wE_7 _ rfl) rfl aw_117 aw_118 (c_X7_refuse l D y ad M (-1000000002) 2 (by decide) (by decide)) aw_116 aw_119 aw_2 (by decide +kernel) ⟨by decide, by decide⟩ rfl (Nat.le_of_ble_eq_true rfl) ⟨by decide, by decide⟩ dX7_move_56 ?_
          rintro r_ M1_ ⟨rfl, rfl⟩
          exact j_iret X hr hlocks dX7_move_59 ⟨(by unfold sp_move; (repeat' split) <;> first | rfl | omega | (exfalso; omega)), (sm_up sm_rf rfl)⟩
      · refine j_aald11 X (by decide) rfl (by unfold vp_in; decide) dX7_move_26 ?_
        refine j_eqr (v := 72) rfl ?_
        refine j_astore X [(6, .ref (ad 72)), (0, .ref (ad 0)), (1, .int 1), (2, .int i), (3, .int o), (4, .int j), (5, .int n)] (by decide) rfl dX7_move_27 ?_
        refine j_aload_n X 1 rfl rfl dX7_move_29 ?_
        refine j_get X (by decide) (wE_7 _ rfl) rfl awF7 5 (by decide) aw_31 rfl (v := .ref (ad 69)) rfl dX7_move_30 ?_
        refine j_iload_n X 4 rfl rfl dX7_move_33 ?_
        rcases is_0_3 h_3 with rfl | rfl | rfl | rfl
        · refine j_aald11 X (by decide) rfl (by unfold vp_in; decide) dX7_move_34 ?_
          refine j_eqr (v := 70) rfl ?_
          refine j_astore X [(7, .ref (ad 70)), (6, .ref (ad 72)), (0, .ref (ad 0)), (1, .int 1), (2, .int i), (3, .int 0), (4, .int j), (5, .int n)] (by decide) rfl dX7_move_35 ?_
          refine j_aload X 1 rfl dX7_move_37 ?_
          refine j_callVNI X (nn := 0) (As := []) (st := []) (ci := 3) (by decide) (wE_3 _ rfl) rfl aw_641 aw_642 (c_isMissing0_72 l D y ad M hz.2.2.2.2.2.2.2.2.2.2.2.2.1) (List.mem_of_getElem? (i := 38) rfl) aw_643 aw_35 (by decide +kernel) ⟨by decide, by decide⟩ rfl (Nat.le_of_ble_eq_true rfl) ⟨by decide, by decide⟩ dX7_move_39 ?_
          rintro r_ M1_ ⟨rfl, rfl⟩
          refine j_if_ne X 53 (by decide) dX7_move_42 (fun c_9 => ?_) (fun c_9 => False.elim (by revert c_9; decide))
          refine j_aload_n X 2 rfl rfl dX7_move_53 ?_
          refine j_ldc X (v := (-1000000002)) aw_560 dX7_move_54 ?_
          refine j_callVI X (nn := 1) (As := [.int (-1000000002)]) (st := []) (ci := 7) (by decide) (wE_7 _ rfl) rfl aw_117 aw_118 (c_X7_refuse l D y ad M (-1000000002) 2 (by decide) (by decide)) aw_116 aw_119 aw_2 (by decide +kernel) ⟨by decide, by decide⟩ rfl (Nat.le_of_ble_eq_true rfl) ⟨by decide, by decide⟩ dX7_move_56 ?_
          rintro r_ M1_ ⟨rfl, rfl⟩
          exact j_iret X hr hlocks dX7_move_59 ⟨(by unfold sp_move; (repeat' split) <;> first | rfl | omega | (exfalso; omega)), (sm_up sm_rf rfl)⟩
        · refine j_aald11 X (by decide) rfl (by unfold vp_in; decide) dX7_move_34 ?_
          refine j_eqr (v := 72) rfl ?_
          refine j_astore X [(7, .ref (ad 72)), (6, .ref (ad 72)), (0, .ref (ad 0)), (1, .int 1), (2, .int i), (3, .int 1), (4, .int j), (5, .int n)] (by decide) rfl dX7_move_35 ?_
          refine j_aload X 1 rfl dX7_move_37 ?_
          refine j_callVNI X (nn := 0) (As := []) (st := []) (ci := 3) (by decide) (wE_3 _ rfl) rfl aw_641 aw_642 (c_isMissing0_72 l D y ad M hz.2.2.2.2.2.2.2.2.2.2.2.2.1) (List.mem_of_getElem? (i := 38) rfl) aw_643 aw_35 (by decide +kernel) ⟨by decide, by decide⟩ rfl (Nat.le_of_ble_eq_true rfl) ⟨by decide, by decide⟩ dX7_move_39 ?_
          rintro r_ M1_ ⟨rfl, rfl⟩
          refine j_if_ne X 53 (by decide) dX7_move_42 (fun c_10 => ?_) (fun c_10 => False.elim (by revert c_10; decide))
          refine j_aload_n X 2 rfl rfl dX7_move_53 ?_
          refine j_ldc X (v := (-1000000002)) aw_560 dX7_move_54 ?_
          refine j_callVI X (nn := 1) (As := [.int (-1000000002)]) (st := []) (ci := 7) (by decide) (wE_7 _ rfl) rfl aw_117 aw_118 (c_X7_refuse l D y ad M (-1000000002) 2 (by decide) (by decide)) aw_116 aw_119 aw_2 (by decide +kernel) ⟨by decide, by decide⟩ rfl (Nat.le_of_ble_eq_true rfl) ⟨by decide, by decide⟩ dX7_move_56 ?_
          rintro r_ M1_ ⟨rfl, rfl⟩
          exact j_iret X hr hlocks dX7_move_59 ⟨(by unfold sp_move; (repeat' split) <;> first | rfl | omega | (exfalso; omega)), (sm_up sm_rf rfl)⟩
        · refine j_aald11 X (by decide) rfl (by unfold vp_in; decide) dX7_move_34 ?_
          refine j_eqr (v := 74) rfl ?_
          refine j_astore X [(7, .ref (ad 74)), (6, .ref (ad 72)), (0, .ref (ad 0)), (1, .int 1), (2, .int i), (3, .int 2), (4, .int j), (5, .int n)] (by decide) rfl dX7_move_35 ?_
          refine j_aload X 1 rfl dX7_move_37 ?_
          refine j_callVNI X (nn := 0) (As := []) (st := []) (ci := 3) (by decide) (wE_3 _ rfl) rfl aw_641 aw_642 (c_isMissing0_72 l D y ad M hz.2.2.2.2.2.2.2.2.2.2.2.2.1) (List.mem_of_getElem? (i := 38) rfl) aw_643 aw_35 (by decide +kernel) ⟨by decide, by decide⟩ rfl (Nat.le_of_ble_eq_true rfl) ⟨by decide, by decide⟩ dX7_move_39 ?_
          rintro r_ M1_ ⟨rfl, rfl⟩
          refine j_if_ne X 53 (by decide) dX7_move_42 (fun c_11 => ?_) (fun c_11 => False.elim (by revert c_11; decide))
          refine j_aload_n X 2 rfl rfl dX7_move_53 ?_
          refine j_ldc X (v := (-1000000002)) aw_560 dX7_move_54 ?_
          refine j_callVI X (nn := 1) (As := [.int (-1000000002)]) (st := []) (ci := 7) (by decide) (wE_7 _ rfl) rfl aw_117 aw_118 (c_X7_refuse l D y ad M (-1000000002) 2 (by decide) (by decide)) aw_116 aw_119 aw_2 (by decide +kernel) ⟨by decide, by decide⟩ rfl (Nat.le_of_ble_eq_true rfl) ⟨by decide, by decide⟩ dX7_move_56 ?_
          rintro r_ M1_ ⟨rfl, rfl⟩
          exact j_iret X hr hlocks dX7_move_59 ⟨(by unfold sp_move; (repeat' split) <;> first | rfl | omega | (exfalso; omega)), (sm_up sm_rf rfl)⟩
        · refine j_aald11 X (by decide) rfl (by unfold vp_in; decide) dX7_move_34 ?_
          refine j_eqr (v := 76) rfl ?_
          refine j_astore X [(7, .ref (ad 76)), (6, .ref (ad 72)), (0, .ref (ad 0)), (1, .int 1), (2, .int i), (3, .int 3), (4, .int j), (5, .int n)] (by decide) rfl dX7_move_35 ?_
          refine j_aload X 1 rfl dX7_move_37 ?_
          refine j_callVNI X (nn := 0) (As := []) (st := []) (ci := 3) (by decide) (wE_3 _ rfl) rfl aw_641 aw_642 (c_isMissing0_72 l D y ad M hz.2.2.2.2.2.2.2.2.2.2.2.2.1) (List.mem_of_getElem? (i := 38) rfl) aw_643 aw_35 (by decide +kernel) ⟨by decide, by decide⟩ rfl (Nat.le_of_ble_eq_true rfl) ⟨by decide, by decide⟩ dX7_move_39 ?_
          rintro r_ M1_ ⟨rfl, rfl⟩
          refine j_if_ne X 53 (by decide) dX7_move_42 (fun c_12 => ?_) (fun c_12 => False.elim (by revert c_12; decide))
          refine j_aload_n X 2 rfl rfl dX7_move_53 ?_
          refine j_ldc X (v := (-1000000002)) aw_560 dX7_move_54 ?_
          refine j_callVI X (nn := 1) (As := [.int (-1000000002)]) (st := []) (ci := 7) (by decide) (wE_7 _ rfl) rfl aw_117 aw_118 (c_X7_refuse l D y ad M (-1000000002) 2 (by decide) (by decide)) aw_116 aw_119 aw_2 (by decide +kernel) ⟨by decide, by decide⟩ rfl (Nat.le_of_ble_eq_true rfl) ⟨by decide, by decide⟩ dX7_move_56 ?_
          rintro r_ M1_ ⟨rfl, rfl⟩
          exact j_iret X hr hlocks dX7_move_59 ⟨(by unfold sp_move; (repeat' split) <;> first | rfl | omega | (exfalso; omega)), (sm_up sm_rf rfl)⟩
      · refine j_aald11 X (by decide) rfl (by unfold vp_in; decide) dX7_move_26 ?_
        refine j_eqr (v := 74) rfl ?_
        refine j_astore X [(6, .ref (ad 74)), (0, .ref (ad 0)), (1, .int 2), (2, .int i), (3, .int o), (4, .int j), (5, .int n)] (by decide) rfl dX7_move_27 ?_
        refine j_aload_n X 1 rfl rfl dX7_move_29 ?_
        refine j_get X (by decide) (wE_7 _ rfl) rfl awF7 5 (by decide) aw_31 rfl (v := .ref (ad 69)) rfl dX7_move_30 ?_
        refine j_iload_n X 4 rfl rfl dX7_move_33 ?_
        rcases is_0_3 h_3 with rfl | rfl | rfl | rfl
        · refine j_aald11 X (by decide) rfl (by unfold vp_in; decide) dX7_move_34 ?_
          refine j_eqr (v := 70) rfl ?_
          refine j_astore X [(7, .ref (ad 70)), (6, .ref (ad 74)), (0, .ref (ad 0)), (1, .int 2), (2, .int i), (3, .int 0), (4, .int j), (5, .int n)] (by decide) rfl dX7_move_35 ?_
          refine j_aload X 1 rfl dX7_move_37 ?_
          refine j_callVNI X (nn := 0) (As := []) (st := []) (ci := 3) (by decide) (wE_3 _ rfl) rfl aw_641 aw_642 (c_isMissing0_74 l D y ad M hz.2.2.2.2.2.2.2.2.2.2.2.2.2.1) (List.mem_of_getElem? (i := 38) rfl) aw_643 aw_35 (by decide +kernel) ⟨by decide, by decide⟩ rfl (Nat.le_of_ble_eq_true rfl) ⟨by decide, by decide⟩ dX7_move_39 ?_
          rintro r_ M1_ ⟨rfl, rfl⟩
          refine j_if_ne X 53 (by decide) dX7_move_42 (fun c_13 => ?_) (fun c_13 => False.elim (by revert c_13; decide))
          refine j_aload_n X 2 rfl rfl dX7_move_53 ?_
          refine j_ldc X (v := (-1000000002)) aw_560 dX7_move_54 ?_
          refine j_callVI X (nn := 1) (As := [.int (-1000000002)]) (st := []) (ci := 7) (by decide) (wE_7 _ rfl) rfl aw_117 aw_118 (c_X7_refuse l D y ad M (-1000000002) 2 (by decide) (by decide)) aw_116 aw_119 aw_2 (by decide +kernel) ⟨by decide, by decide⟩ rfl (Nat.le_of_ble_eq_true rfl) ⟨by decide, by decide⟩ dX7_move_56 ?_
          rintro r_ M1_ ⟨rfl, rfl⟩
          exact j_iret X hr hlocks dX7_move_59 ⟨(by unfold sp_move; (repeat' split) <;> first | rfl | omega | (exfalso; omega)), (sm_up sm_rf rfl)⟩
        · refine j_aald11 X (by decide) rfl (by unfold vp_in; decide) dX7_move_34 ?_
          refine j_eqr (v := 72) rfl ?_
          refine j_astore X [(7, .ref (ad 72)), (6, .ref (ad 74)), (0, .ref (ad 0)), (1, .int 2), (2, .int i), (3, .int 1), (4, .int j), (5, .int n)] (by decide) rfl dX7_move_35 ?_
          refine j_aload X 1 rfl dX7_move_37 ?_
          refine j_callVNI X (nn := 0) (As := []) (st := []) (ci := 3) (by decide) (wE_3 _ rfl) rfl aw_641 aw_642 (c_isMissing0_74 l D y ad M hz.2.2.2.2.2.2.2.2.2.2.2.2.2.1) (List.mem_of_getElem? (i := 38) rfl) aw_643 aw_35 (by decide +kernel) ⟨by decide, by decide⟩ rfl (Nat.le_of_ble_eq_true rfl) ⟨by decide, by decide⟩ dX7_move_39 ?_
          rintro r_ M1_ ⟨rfl, rfl⟩
          refine j_if_ne X 53 (by decide) dX7_move_42 (fun c_14 => ?_) (fun c_14 => False.elim (by revert c_14; decide))
          refine j_aload_n X 2 rfl rfl dX7_move_53 ?_
          refine j_ldc X (v := (-1000000002)) aw_560 dX7_move_54 ?_
          refine j_callVI X (nn := 1) (As := [.int (-1000000002)]) (st := []) (ci := 7) (by decide) (wE_7 _ rfl) rfl aw_117 aw_118 (c_X7_refuse l D y ad M (-1000000002) 2 (by decide) (by decide)) aw_116 aw_119 aw_2 (by decide +kernel) ⟨by decide, by decide⟩ rfl (Nat.le_of_ble_eq_true rfl) ⟨by decide, by decide⟩ dX7_move_56 ?_
          rintro r_ M1_ ⟨rfl, rfl⟩
          exact j_iret X hr hlocks dX7_move_59 ⟨(by unfold sp_move; (repeat' split) <;> first | rfl | omega | (exfalso; omega)), (sm_up sm_rf rfl)⟩
        · refine j_aald11 X (by decide) rfl (by unfold vp_in; decide) dX7_move_34 ?_
          refine j_eqr (v := 74) rfl ?_
          refine j_astore X [(7, .ref (ad 74)), (6, .ref (ad 74)), (0, .ref (ad 0)), (1, .int 2), (2, .int i), (3, .int 2), (4, .int j), (5, .int n)] (by decide) rfl dX7_move_35 ?_
          refine j_aload X 1 rfl dX7_move_37 ?_
          refine j_callVNI X (nn := 0) (As := []) (st := []) (ci := 3) (by decide) (wE_3 _ rfl) rfl aw_641 aw_642 (c_isMissing0_74 l D y ad M hz.2.2.2.2.2.2.2.2.2.2.2.2.2.1) (List.mem_of_getElem? (i := 38) rfl) aw_643 aw_35 (by decide +kernel) ⟨by decide, by decide⟩ rfl (Nat.le_of_ble_eq_true rfl) ⟨by decide, by decide⟩ dX7_move_39 ?_
          rintro r_ M1_ ⟨rfl, rfl⟩
          refine j_if_ne X 53 (by decide) dX7_move_42 (fun c_15 => ?_) (fun c_15 => False.elim (by revert c_15; decide))
          refine j_aload_n X 2 rfl rfl dX7_move_53 ?_
          refine j_ldc X (v := (-1000000002)) aw_560 dX7_move_54 ?_
          refine j_callVI X (nn := 1) (As := [.int (-1000000002)]) (st := []) (ci := 7) (by decide) (wE_7 _ rfl) rfl aw_117 aw_118 (c_X7_refuse l D y ad M (-1000000002) 2 (by decide) (by decide)) aw_116 aw_119 aw_2 (by decide +kernel) ⟨by decide, by decide⟩ rfl (Nat.le_of_ble_eq_true rfl) ⟨by decide, by decide⟩ dX7_move_56 ?_
          rintro r_ M1_ ⟨rfl, rfl⟩
          exact j_iret X hr hlocks dX7_move_59 ⟨(by unfold sp_move; (repeat' split) <;> first | rfl | omega | (exfalso; omega)), (sm_up sm_rf rfl)⟩
        · refine j_aald11 X (by decide) rfl (by unfold vp_in; decide) dX7_move_34 ?_
          refine j_eqr (v := 76) rfl ?_
          refine j_astore X [(7, .ref (ad 76)), (6, .ref (ad 74)), (0, .ref (ad 0)), (1, .int 2), (2, .int i), (3, .int 3), (4, .int j), (5, .int n)] (by decide) rfl dX7_move_35 ?_
          refine j_aload X 1 rfl dX7_move_37 ?_
          refine j_callVNI X (nn := 0) (As := []) (st := []) (ci := 3) (by decide) (wE_3 _ rfl) rfl aw_641 aw_642 (c_isMissing0_74 l D y ad M hz.2.2.2.2.2.2.2.2.2.2.2.2.2.1) (List.mem_of_getElem? (i := 38) rfl) aw_643 aw_35 (by decide +kernel) ⟨by decide, by decide⟩ rfl (Nat.le_of_ble_eq_true rfl) ⟨by decide, by decide⟩ dX7_move_39 ?_
          rintro r_ M1_ ⟨rfl, rfl⟩
          refine j_if_ne X 53 (by decide) dX7_move_42 (fun c_16 => ?_) (fun c_16 => False.elim (by revert c_16; decide))
          refine j_aload_n X 2 rfl rfl dX7_move_53 ?_
          refine j_ldc X (v := (-1000000002)) aw_560 dX7_move_54 ?_
          refine j_callVI X (nn := 1) (As := [.int (-1000000002)]) (st := []) (ci := 7) (by decide) (wE_7 _ rfl) rfl aw_117 aw_118 (c_X7_refuse l D y ad M (-1000000002) 2 (by decide) (by decide)) aw_116 aw_119 aw_2 (by decide +kernel) ⟨by decide, by decide⟩ rfl (Nat.le_of_ble_eq_true rfl) ⟨by decide, by decide⟩ dX7_move_56 ?_
          rintro r_ M1_ ⟨rfl, rfl⟩
          exact j_iret X hr hlocks dX7_move_59 ⟨(by unfold sp_move; (repeat' split) <;> first | rfl | omega | (exfalso; omega)), (sm_up sm_rf rfl)⟩
      · refine j_aald11 X (by decide) rfl (by unfold vp_in; decide) dX7_move_26 ?_
        refine j_eqr (v := 76) rfl ?_
        refine j_astore X [(6, .ref (ad 76)), (0, .ref (ad 0)), (1, .int 3), (2, .int i), (3, .int o), (4, .int j), (5, .int n)] (by decide) rfl dX7_move_27 ?_
        refine j_aload_n X 1 rfl rfl dX7_move_29 ?_
        refine j_get X (by decide) (wE_7 _ rfl) rfl awF7 5 (by decide) aw_31 rfl (v := .ref (ad 69)) rfl dX7_move_30 ?_
        refine j_iload_n X 4 rfl rfl dX7_move_33 ?_
        rcases is_0_3 h_3 with rfl | rfl | rfl | rfl
        · refine j_aald11 X (by decide) rfl (by unfold vp_in; decide) dX7_move_34 ?_
          refine j_eqr (v := 70) rfl ?_
          refine j_astore X [(7, .ref (ad 70)), (6, .ref (ad 76)), (0, .ref (ad 0)), (1, .int 3), (2, .int i), (3, .int 0), (4, .int j), (5, .int n)] (by decide) rfl dX7_move_35 ?_
          refine j_aload X 1 rfl dX7_move_37 ?_
          refine j_callVNI X (nn := 0) (As := []) (st := []) (ci := 3) (by decide) (wE_3 _ rfl) rfl aw_641 aw_642 (c_isMissing0_76 l D y ad M hz.2.2.2.2.2.2.2.2.2.2.2.2.2.2.1) (List.mem_of_getElem? (i := 38) rfl) aw_643 aw_35 (by decide +kernel) ⟨by decide, by decide⟩ rfl (Nat.le_of_ble_eq_true rfl) ⟨by decide, by decide⟩ dX7_move_39 ?_
          rintro r_ M1_ ⟨rfl, rfl⟩
          refine j_if_ne X 53 (by decide) dX7_move_42 (fun c_17 => ?_) (fun c_17 => False.elim (by revert c_17; decide))
          refine j_aload_n X 2 rfl rfl dX7_move_53 ?_
          refine j_ldc X (v := (-1000000002)) aw_560 dX7_move_54 ?_
          refine j_callVI X (nn := 1) (As := [.int (-1000000002)]) (st := []) (ci := 7) (by decide) (wE_7 _ rfl) rfl aw_117 aw_118 (c_X7_refuse l D y ad M (-1000000002) 2 (by decide) (by decide)) aw_116 aw_119 aw_2 (by decide +kernel) ⟨by decide, by decide⟩ rfl (Nat.le_of_ble_eq_true rfl) ⟨by decide, by decide⟩ dX7_move_56 ?_
          rintro r_ M1_ ⟨rfl, rfl⟩
          exact j_iret X hr hlocks dX7_move_59 ⟨(by unfold sp_move; (repeat' split) <;> first | rfl | omega | (exfalso; omega)), (sm_up sm_rf rfl)⟩
        · refine j_aald11 X (by decide) rfl (by unfold vp_in; decide) dX7_move_34 ?_
          refine j_eqr (v := 72) rfl ?_
          refine j_astore X [(7, .ref (ad 72)), (6, .ref (ad 76)), (0, .ref (ad 0)), (1, .int 3), (2, .int i), (3, .int 1), (4, .int j), (5, .int n)] (by decide) rfl dX7_move_35 ?_
          refine j_aload X 1 rfl dX7_move_37 ?_
          refine j_callVNI X (nn := 0) (As := []) (st := []) (ci := 3) (by decide) (wE_3 _ rfl) rfl aw_641 aw_642 (c_isMissing0_76 l D y ad M hz.2.2.2.2.2.2.2.2.2.2.2.2.2.2.1) (List.mem_of_getElem? (i := 38) rfl) aw_643 aw_35 (by decide +kernel) ⟨by decide, by decide⟩ rfl (Nat.le_of_ble_eq_true rfl) ⟨by decide, by decide⟩ dX7_move_39 ?_
          rintro r_ M1_ ⟨rfl, rfl⟩
          refine j_if_ne X 53 (by decide) dX7_move_42 (fun c_18 => ?_) (fun c_18 => False.elim (by revert c_18; decide))
          refine j_aload_n X 2 rfl rfl dX7_move_53 ?_
          refine j_ldc X (v := (-1000000002)) aw_560 dX7_move_54 ?_
          refine j_callVI X (nn := 1) (As := [.int (-1000000002)]) (st := []) (ci := 7) (by decide) (wE_7 _ rfl) rfl aw_117 aw_118 (c_X7_refuse l D y ad M (-1000000002) 2 (by decide) (by decide)) aw_116 aw_119 aw_2 (by decide +kernel) ⟨by decide, by decide⟩ rfl (Nat.le_of_ble_eq_true rfl) ⟨by decide, by decide⟩ dX7_move_56 ?_
          rintro r_ M1_ ⟨rfl, rfl⟩
          exact j_iret X hr hlocks dX7_move_59 ⟨(by unfold sp_move; (repeat' split) <;> first | rfl | omega | (exfalso; omega)), (sm_up sm_rf rfl)⟩
        · refine j_aald11 X (by decide) rfl (by unfold vp_in; decide) dX7_move_34 ?_
          refine j_eqr (v := 74) rfl ?_
          refine j_astore X [(7, .ref (ad 74)), (6, .ref (ad 76)), (0, .ref (ad 0)), (1, .int 3), (2, .int i), (3, .int 2), (4, .int j), (5, .int n)] (by decide) rfl dX7_move_35 ?_
          refine j_aload X 1 rfl dX7_move_37 ?_
          refine j_callVNI X (nn := 0) (As := []) (st := []) (ci := 3) (by decide) (wE_3 _ rfl) rfl aw_641 aw_642 (c_isMissing0_76 l D y ad M hz.2.2.2.2.2.2.2.2.2.2.2.2.2.2.1) (List.mem_of_getElem? (i := 38) rfl) aw_643 aw_35 (by decide +kernel) ⟨by decide, by decide⟩ rfl (Nat.le_of_ble_eq_true rfl) ⟨by decide, by decide⟩ dX7_move_39 ?_
          rintro r_ M1_ ⟨rfl, rfl⟩
          refine j_if_ne X 53 (by decide) dX7_move_42 (fun c_19 => ?_) (fun c_19 => False.elim (by revert c_19; decide))
          refine j_aload_n X 2 rfl rfl dX7_move_53 ?_
          refine j_ldc X (v := (-1000000002)) aw_560 dX7_move_54 ?_
          refine j_callVI X (nn := 1) (As := [.int (-1000000002)]) (st := []) (ci := 7) (by decide) (wE_7 _ rfl) rfl aw_117 aw_118 (c_X7_refuse l D y ad M (-1000000002) 2 (by decide) (by decide)) aw_116 aw_119 aw_2 (by decide +kernel) ⟨by decide, by decide⟩ rfl (Nat.le_of_ble_eq_true rfl) ⟨by decide, by decide⟩ dX7_move_56 ?_
          rintro r_ M1_ ⟨rfl, rfl⟩
          exact j_iret X hr hlocks dX7_move_59 ⟨(by unfold sp_move; (repeat' split) <;> first | rfl | omega | (exfalso; omega)), (sm_up sm_rf rfl)⟩
        · refine j_aald11 X (by decide) rfl (by unfold vp_in; decide) dX7_move_34 ?_
          refine j_eqr (v := 76) rfl ?_
          refine j_astore X [(7, .ref (ad 76)), (6, .ref (ad 76)), (0, .ref (ad 0)), (1, .int 3), (2, .int i), (3, .int 3), (4, .int j), (5, .int n)] (by decide) rfl dX7_move_35 ?_
          refine j_aload X 1 rfl dX7_move_37 ?_
          refine j_callVNI X (nn := 0) (As := []) (st := []) (ci := 3) (by decide) (wE_3 _ rfl) rfl aw_641 aw_642 (c_isMissing0_76 l D y ad M hz.2.2.2.2.2.2.2.2.2.2.2.2.2.2.1) (List.mem_of_getElem? (i := 38) rfl) aw_643 aw_35 (by decide +kernel) ⟨by decide, by decide⟩ rfl (Nat.le_of_ble_eq_true rfl) ⟨by decide, by decide⟩ dX7_move_39 ?_
          rintro r_ M1_ ⟨rfl, rfl⟩
          refine j_if_ne X 53 (by decide) dX7_move_42 (fun c_20 => ?_) (fun c_20 => False.elim (by revert c_20; decide))
          refine j_aload_n X 2 rfl rfl dX7_move_53 ?_
          refine j_ldc X (v := (-1000000002)) aw_560 dX7_move_54 ?_
          refine j_callVI X (nn := 1) (As := [.int (-1000000002)]) (st := []) (ci := 7) (by decide) (wE_7 _ rfl) rfl aw_117 aw_118 (c_X7_refuse l D y ad M (-1000000002) 2 (by decide) (by decide)) aw_116 aw_119 aw_2 (by decide +kernel) ⟨by decide, by decide⟩ rfl (Nat.le_of_ble_eq_true rfl) ⟨by decide, by decide⟩ dX7_move_56 ?_
          rintro r_ M1_ ⟨rfl, rfl⟩
          exact j_iret X hr hlocks dX7_move_59 ⟨(by unfold sp_move; (repeat' split) <;> first | rfl | omega | (exfalso; omega)), (sm_up sm_rf rfl)⟩
    · refine j_if_ne X 21 (by decide) dX7_move_11 (fun c_21 => False.elim (by revert c_21; decide)) (fun c_21 => ?_)
      refine j_aload_n X 0 rfl rfl dX7_move_14 ?_
      refine j_ldc X (v := (-1000000001)) aw_108 dX7_move_15 ?_
      refine j_callVI X (nn := 1) (As := [.int (-1000000001)]) (st := []) (ci := 7) (by decide) (wE_7 _ rfl) rfl aw_117 aw_118 (c_X7_refuse l D y ad M (-1000000001) 1 (by decide) (by decide)) aw_116 aw_119 aw_2 (by decide +kernel) ⟨by decide, by decide⟩ rfl (Nat.le_of_ble_eq_true rfl) ⟨by decide, by decide⟩ dX7_move_17 ?_
      rintro r_ M1_ ⟨rfl, rfl⟩
      exact j_iret X hr hlocks dX7_move_20 ⟨(by unfold sp_move; (repeat' split) <;> first | rfl | omega | (exfalso; omega)), (sm_up sm_rf rfl)⟩
  · refine j_if_eq X 14 (by decide) dX7_move_4 (fun c_22 => ?_) (fun c_22 => False.elim (by revert c_22; decide))
    refine j_aload_n X 0 rfl rfl dX7_move_14 ?_
    refine j_ldc X (v := (-1000000001)) aw_108 dX7_move_15 ?_
    refine j_callVI X (nn := 1) (As := [.int (-1000000001)]) (st := []) (ci := 7) (by decide) (wE_7 _ rfl) rfl aw_117 aw_118 (c_X7_refuse l D y ad M (-1000000001) 1 (by decide) (by decide)) aw_116 aw_119 aw_2 (by decide +kernel) ⟨by decide, by decide⟩ rfl (Nat.le_of_ble_eq_true rfl) ⟨by decide, by decide⟩ dX7_move_17 ?_
    rintro r_ M1_ ⟨rfl, rfl⟩
    exact j_iret X hr hlocks dX7_move_20 ⟨(by unfold sp_move; (repeat' split) <;> first | rfl | omega | (exfalso; omega)), (sm_up sm_rf rfl)⟩
set_option maxRecDepth 100000 in
set_option maxHeartbeats 4000000 in
theorem c_lay_70 (l : Launch) (D : va_G) (y : wY) (ad : Nat → Nat) (M : Mem) (b n : Int32) : MV l D y ad yX3_lay (Cond.code yX3_lay cX3_lay 4 none) 0 M [.ref (ad 70), .int b, .int n] (fun M' => sm (fun b _ => b == 70 || b == 71) M M') := by
  refine MV_of (by decide) (Nat.le_of_ble_eq_true rfl) ?_
  intro p e s m args below meth c X hr hlocks
  refine j_lv (lv1 := [(0, .ref (ad 70)), (1, .int b), (2, .int n)]) [0, 1, 2] rfl ?_
  refine j_aload_n X 0 rfl rfl dX3_lay_0 ?_
  refine j_iload_n X 1 rfl rfl dX3_lay_1 ?_
  refine j_put X (up M 70 1 b) up_o (by decide) (wE_3 _ rfl) rfl awF3 1 (by decide) (wP_3_1 _ _ rfl) tyX3 tyX3_ok nmX3 rfl (ty := .int) (by decide +kernel) rfl rfl (Nat.le_of_ble_eq_true rfl) aw_644 rfl dX3_lay_2 ?_
  refine j_aload_n X 0 rfl rfl dX3_lay_5 ?_
  refine j_iload_n X 2 rfl rfl dX3_lay_6 ?_
  refine j_put X (up (up M 70 1 b) 70 2 n) up_o (by decide) (wE_3 _ rfl) rfl awF3 2 (by decide) (wP_3_2 _ _ rfl) tyX3 tyX3_ok nmX3 rfl (ty := .int) (by decide +kernel) rfl rfl (Nat.le_of_ble_eq_true rfl) aw_815 rfl dX3_lay_7 ?_
  refine j_iconst X (v := 0) (by decide) dX3_lay_10 ?_
  refine j_istore_n X [(3, .int 0), (0, .ref (ad 70)), (1, .int b), (2, .int n)] rfl (by decide) rfl dX3_lay_11 ?_
  have loop1 : ∀ (n_1 i_1 : Nat) (M1 : Mem), i_1 ≤ 40 → 40 - i_1 < n_1 → sm (fun b _ => b == 70 || b == 71) (up (up M 70 1 b) 70 2 n) M1 → J p l e (rmN 0) s m args below meth c 0 0 (QV (fun M' => sm (fun b _ => b == 70 || b == 71) M M') D y ad M s args below) D y ad (va_A (PL y ad M) s.heap.size) 4 M1 12 [(3, .int (nI i_1)), (0, .ref (ad 70)), (1, .int b), (2, .int n)] [] := by
    intro n_1
    induction n_1 with
    | zero => intro i_1 M1 h1 h2; exact absurd h2 (by omega)
    | succ n_1 ih1 =>
      intro i_1 M1 h1i_1 h2i_1 hs1
      refine j_iload_n X 0 rfl rfl dX3_lay_12 ?_
      refine j_bipush X (v := 40) (by decide) dX3_lay_13 ?_
      refine j_icmp_ge X 31 (by decide) dX3_lay_15 (fun c_2 => ?_) (fun c_2 => ?_)
      · have c_2 := (nI_leI (by omega) (by omega)).mp (show nI (40) ≤ nI i_1 from c_2)
        exact j_vret X hr hlocks dX3_lay_31 (sm_tr (sm_up (sm_up sm_rf rfl) rfl) (sm_w hs1 (by intro b k hb; simp only [Bool.or_eq_false_iff, Bool.and_eq_false_iff, beq_eq_false_iff_ne, ne_eq, decide_eq_false_iff_not] at hb ⊢; omega)))
      · have c_2 : i_1 < 40 := by
          rcases Nat.lt_or_ge i_1 (40) with g | g
          · exact g
          · exact absurd (show nI (40) ≤ nI i_1 from nI_le g (by omega)) c_2
        refine j_aload_n X 1 rfl rfl dX3_lay_18 ?_
        refine j_get X (by decide) (wE_3 _ rfl) rfl awF3 0 (by decide) aw_87 rfl (v := .ref (ad 71)) rfl dX3_lay_19 ?_
        refine j_iload_n X 0 rfl rfl dX3_lay_22 ?_
        refine j_iconst X (v := 0) (by decide) dX3_lay_23 ?_
        refine j_iast X (by decide) rfl (show vp_in (nI i_1) 40 from vp_in_nI (by omega) (by decide)) dX3_lay_24 ?_
        refine j_eqM (M1 := (up M1 71 i_1 0)) (by rw [nI_clamp (by omega)]) ?_
        refine j_iinc X (v := (nI (i_1 + 1))) 0 [(3, .int (nI (i_1 + 1))), (0, .ref (ad 70)), (1, .int b), (2, .int n)] rfl (show nI i_1 + Int32.ofInt 1 = _ from nI_1 i_1) (by decide) rfl dX3_lay_25 ?_
        refine j_goto X 12 (by decide) dX3_lay_28 ?_
        refine j_lv (lv1 := [(3, .int (nI (i_1 + 1))), (0, .ref (ad 70)), (1, .int b), (2, .int n)]) [0, 1, 2, 3] rfl ?_
        exact ih1 (i_1 + 1) _ (by omega) (by omega) (sm_up hs1 rfl)
  refine j_lv (lv1 := [(3, .int (nI 0)), (0, .ref (ad 70)), (1, .int b), (2, .int n)]) [0, 1, 2, 3] rfl ?_
  exact loop1 (40 + 1) 0 _ (by omega) (by omega) sm_rf
set_option maxRecDepth 100000 in
set_option maxHeartbeats 4000000 in
theorem c_lay_72 (l : Launch) (D : va_G) (y : wY) (ad : Nat → Nat) (M : Mem) (b n : Int32) : MV l D y ad yX3_lay (Cond.code yX3_lay cX3_lay 4 none) 0 M [.ref (ad 72), .int b, .int n] (fun M' => sm (fun b _ => b == 72 || b == 73) M M') := by
  refine MV_of (by decide) (Nat.le_of_ble_eq_true rfl) ?_
  intro p e s m args below meth c X hr hlocks
  refine j_lv (lv1 := [(0, .ref (ad 72)), (1, .int b), (2, .int n)]) [0, 1, 2] rfl ?_
  refine j_aload_n X 0 rfl rfl dX3_lay_0 ?_
  refine j_iload_n X 1 rfl rfl dX3_lay_1 ?_
  refine j_put X (up M 72 1 b) up_o (by decide) (wE_3 _ rfl) rfl awF3 1 (by decide) (wP_3_1 _ _ rfl) tyX3 tyX3_ok nmX3 rfl (ty := .int) (by decide +kernel) rfl rfl (Nat.le_of_ble_eq_true rfl) aw_644 rfl dX3_lay_2 ?_
  refine j_aload_n X 0 rfl rfl dX3_lay_5 ?_
  refine j_iload_n X 2 rfl rfl dX3_lay_6 ?_
  refine j_put X (up (up M 72 1 b) 72 2 n) up_o (by decide) (wE_3 _ rfl) rfl awF3 2 (by decide) (wP_3_2 _ _ rfl) tyX3 tyX3_ok nmX3 rfl (ty := .int) (by decide +kernel) rfl rfl (Nat.le_of_ble_eq_true rfl) aw_815 rfl dX3_lay_7 ?_
  refine j_iconst X (v := 0) (by decide) dX3_lay_10 ?_
  refine j_istore_n X [(3, .int 0), (0, .ref (ad 72)), (1, .int b), (2, .int n)] rfl (by decide) rfl dX3_lay_11 ?_
  have loop1 : ∀ (n_1 i_1 : Nat) (M1 : Mem), i_1 ≤ 40 → 40 - i_1 < n_1 → sm (fun b _ => b == 72 || b == 73) (up (up M 72 1 b) 72 2 n) M1 → J p l e (rmN 0) s m args below meth c 0 0 (QV (fun M' => sm (fun b _ => b == 72 || b == 73) M M') D y ad M s args below) D y ad (va_A (PL y ad M) s.heap.size) 4 M1 12 [(3, .int (nI i_1)), (0, .ref (ad 72)), (1, .int b), (2, .int n)] [] := by
    intro n_1
    induction n_1 with
    | zero => intro i_1 M1 h1 h2; exact absurd h2 (by omega)
    | succ n_1 ih1 =>
      intro i_1 M1 h1i_1 h2i_1 hs1
      refine j_iload_n X 0 rfl rfl dX3_lay_12 ?_
      refine j_bipush X (v := 40) (by decide) dX3_lay_13 ?_
      refine j_icmp_ge X 31 (by decide) dX3_lay_15 (fun c_2 => ?_) (fun c_2 => ?_)
      · have c_2 := (nI_leI (by omega) (by omega)).mp (show nI (40) ≤ nI i_1 from c_2)
        exact j_vret X hr hlocks dX3_lay_31 (sm_tr (sm_up (sm_up sm_rf rfl) rfl) (sm_w hs1 (by intro b k hb; simp only [Bool.or_eq_false_iff, Bool.and_eq_false_iff, beq_eq_false_iff_ne, ne_eq, decide_eq_false_iff_not] at hb ⊢; omega)))
      · have c_2 : i_1 < 40 := by
          rcases Nat.lt_or_ge i_1 (40) with g | g
          · exact g
          · exact absurd (show nI (40) ≤ nI i_1 from nI_le g (by omega)) c_2
        refine j_aload_n X 1 rfl rfl dX3_lay_18 ?_
        refine j_get X (by decide) (wE_3 _ rfl) rfl awF3 0 (by decide) aw_87 rfl (v := .ref (ad 73)) rfl dX3_lay_19 ?_
        refine j_iload_n X 0 rfl rfl dX3_lay_22 ?_
        refine j_iconst X (v := 0) (by decide) dX3_lay_23 ?_
        refine j_iast X (by decide) rfl (show vp_in (nI i_1) 40 from vp_in_nI (by omega) (by decide)) dX3_lay_24 ?_
        refine j_eqM (M1 := (up M1 73 i_1 0)) (by rw [nI_clamp (by omega)]) ?_
        refine j_iinc X (v := (nI (i_1 + 1))) 0 [(3, .int (nI (i_1 + 1))), (0, .ref (ad 72)), (1, .int b), (2, .int n)] rfl (show nI i_1 + Int32.ofInt 1 = _ from nI_1 i_1) (by decide) rfl dX3_lay_25 ?_
        refine j_goto X 12 (by decide) dX3_lay_28 ?_
        refine j_lv (lv1 := [(3, .int (nI (i_1 + 1))), (0, .ref (ad 72)), (1, .int b), (2, .int n)]) [0, 1, 2, 3] rfl ?_
        exact ih1 (i_1 + 1) _ (by omega) (by omega) (sm_up hs1 rfl)
  refine j_lv (lv1 := [(3, .int (nI 0)), (0, .ref (ad 72)), (1, .int b), (2, .int n)]) [0, 1, 2, 3] rfl ?_
  exact loop1 (40 + 1) 0 _ (by omega) (by omega) sm_rf
set_option maxRecDepth 100000 in
set_option maxHeartbeats 4000000 in
theorem c_lay_74 (l : Launch) (D : va_G) (y : wY) (ad : Nat → Nat) (M : Mem) (b n : Int32) : MV l D y ad yX3_lay (Cond.code yX3_lay cX3_lay 4 none) 0 M [.ref (ad 74), .int b, .int n] (fun M' => sm (fun b _ => b == 74 || b == 75) M M') := by
  refine MV_of (by decide) (Nat.le_of_ble_eq_true rfl) ?_
  intro p e s m args below meth c X hr hlocks
  refine j_lv (lv1 := [(0, .ref (ad 74)), (1, .int b), (2, .int n)]) [0, 1, 2] rfl ?_
  refine j_aload_n X 0 rfl rfl dX3_lay_0 ?_
  refine j_iload_n X 1 rfl rfl dX3_lay_1 ?_
  refine j_put X (up M 74 1 b) up_o (by decide) (wE_3 _ rfl) rfl awF3 1 (by decide) (wP_3_1 _ _ rfl) tyX3 tyX3_ok nmX3 rfl (ty := .int) (by decide +kernel) rfl rfl (Nat.le_of_ble_eq_true rfl) aw_644 rfl dX3_lay_2 ?_
  refine j_aload_n X 0 rfl rfl dX3_lay_5 ?_
  refine j_iload_n X 2 rfl rfl dX3_lay_6 ?_
  refine j_put X (up (up M 74 1 b) 74 2 n) up_o (by decide) (wE_3 _ rfl) rfl awF3 2 (by decide) (wP_3_2 _ _ rfl) tyX3 tyX3_ok nmX3 rfl (ty := .int) (by decide +kernel) rfl rfl (Nat.le_of_ble_eq_true rfl) aw_815 rfl dX3_lay_7 ?_
  refine j_iconst X (v := 0) (by decide) dX3_lay_10 ?_
  refine j_istore_n X [(3, .int 0), (0, .ref (ad 74)), (1, .int b), (2, .int n)] rfl (by decide) rfl dX3_lay_11 ?_
  have loop1 : ∀ (n_1 i_1 : Nat) (M1 : Mem), i_1 ≤ 40 → 40 - i_1 < n_1 → sm (fun b _ => b == 74 || b == 75) (up (up M 74 1 b) 74 2 n) M1 → J p l e (rmN 0) s m args below meth c 0 0 (QV (fun M' => sm (fun b _ => b == 74 || b == 75) M M') D y ad M s args below) D y ad (va_A (PL y ad M) s.heap.size) 4 M1 12 [(3, .int (nI i_1)), (0, .ref (ad 74)), (1, .int b), (2, .int n)] [] := by
    intro n_1
    induction n_1 with
    | zero => intro i_1 M1 h1 h2; exact absurd h2 (by omega)
    | succ n_1 ih1 =>
      intro i_1 M1 h1i_1 h2i_1 hs1
      refine j_iload_n X 0 rfl rfl dX3_lay_12 ?_
      refine j_bipush X (v := 40) (by decide) dX3_lay_13 ?_
      refine j_icmp_ge X 31 (by decide) dX3_lay_15 (fun c_2 => ?_) (fun c_2 => ?_)
      · have c_2 := (nI_leI (by omega) (by omega)).mp (show nI (40) ≤ nI i_1 from c_2)
        exact j_vret X hr hlocks dX3_lay_31 (sm_tr (sm_up (sm_up sm_rf rfl) rfl) (sm_w hs1 (by intro b k hb; simp only [Bool.or_eq_false_iff, Bool.and_eq_false_iff, beq_eq_false_iff_ne, ne_eq, decide_eq_false_iff_not] at hb ⊢; omega)))
      · have c_2 : i_1 < 40 := by
          rcases Nat.lt_or_ge i_1 (40) with g | g
          · exact g
          · exact absurd (show nI (40) ≤ nI i_1 from nI_le g (by omega)) c_2
        refine j_aload_n X 1 rfl rfl dX3_lay_18 ?_
        refine j_get X (by decide) (wE_3 _ rfl) rfl awF3 0 (by decide) aw_87 rfl (v := .ref (ad 75)) rfl dX3_lay_19 ?_
        refine j_iload_n X 0 rfl rfl dX3_lay_22 ?_
        refine j_iconst X (v := 0) (by decide) dX3_lay_23 ?_
        refine j_iast X (by decide) rfl (show vp_in (nI i_1) 40 from vp_in_nI (by omega) (by decide)) dX3_lay_24 ?_
        refine j_eqM (M1 := (up M1 75 i_1 0)) (by rw [nI_clamp (by omega)]) ?_
        refine j_iinc X (v := (nI (i_1 + 1))) 0 [(3, .int (nI (i_1 + 1))), (0, .ref (ad 74)), (1, .int b), (2, .int n)] rfl (show nI i_1 + Int32.ofInt 1 = _ from nI_1 i_1) (by decide) rfl dX3_lay_25 ?_
        refine j_goto X 12 (by decide) dX3_lay_28 ?_
        refine j_lv (lv1 := [(3, .int (nI (i_1 + 1))), (0, .ref (ad 74)), (1, .int b), (2, .int n)]) [0, 1, 2, 3] rfl ?_
        exact ih1 (i_1 + 1) _ (by omega) (by omega) (sm_up hs1 rfl)
  refine j_lv (lv1 := [(3, .int (nI 0)), (0, .ref (ad 74)), (1, .int b), (2, .int n)]) [0, 1, 2, 3] rfl ?_
  exact loop1 (40 + 1) 0 _ (by omega) (by omega) sm_rf
set_option maxRecDepth 100000 in
set_option maxHeartbeats 4000000 in
theorem c_lay_76 (l : Launch) (D : va_G) (y : wY) (ad : Nat → Nat) (M : Mem) (b n : Int32) : MV l D y ad yX3_lay (Cond.code yX3_lay cX3_lay 4 none) 0 M [.ref (ad 76), .int b, .int n] (fun M' => sm (fun b _ => b == 76 || b == 77) M M') := by
  refine MV_of (by decide) (Nat.le_of_ble_eq_true rfl) ?_
  intro p e s m args below meth c X hr hlocks
  refine j_lv (lv1 := [(0, .ref (ad 76)), (1, .int b), (2, .int n)]) [0, 1, 2] rfl ?_
  refine j_aload_n X 0 rfl rfl dX3_lay_0 ?_
  refine j_iload_n X 1 rfl rfl dX3_lay_1 ?_
  refine j_put X (up M 76 1 b) up_o (by decide) (wE_3 _ rfl) rfl awF3 1 (by decide) (wP_3_1 _ _ rfl) tyX3 tyX3_ok nmX3 rfl (ty := .int) (by decide +kernel) rfl rfl (Nat.le_of_ble_eq_true rfl) aw_644 rfl dX3_lay_2 ?_
  refine j_aload_n X 0 rfl rfl dX3_lay_5 ?_
  refine j_iload_n X 2 rfl rfl dX3_lay_6 ?_
  refine j_put X (up (up M 76 1 b) 76 2 n) up_o (by decide) (wE_3 _ rfl) rfl awF3 2 (by decide) (wP_3_2 _ _ rfl) tyX3 tyX3_ok nmX3 rfl (ty := .int) (by decide +kernel) rfl rfl (Nat.le_of_ble_eq_true rfl) aw_815 rfl dX3_lay_7 ?_
  refine j_iconst X (v := 0) (by decide) dX3_lay_10 ?_
  refine j_istore_n X [(3, .int 0), (0, .ref (ad 76)), (1, .int b), (2, .int n)] rfl (by decide) rfl dX3_lay_11 ?_
  have loop1 : ∀ (n_1 i_1 : Nat) (M1 : Mem), i_1 ≤ 40 → 40 - i_1 < n_1 → sm (fun b _ => b == 76 || b == 77) (up (up M 76 1 b) 76 2 n) M1 → J p l e (rmN 0) s m args below meth c 0 0 (QV (fun M' => sm (fun b _ => b == 76 || b == 77) M M') D y ad M s args below) D y ad (va_A (PL y ad M) s.heap.size) 4 M1 12 [(3, .int (nI i_1)), (0, .ref (ad 76)), (1, .int b), (2, .int n)] [] := by
    intro n_1
    induction n_1 with
    | zero => intro i_1 M1 h1 h2; exact absurd h2 (by omega)
    | succ n_1 ih1 =>
      intro i_1 M1 h1i_1 h2i_1 hs1
      refine j_iload_n X 0 rfl rfl dX3_lay_12 ?_
      refine j_bipush X (v := 40) (by decide) dX3_lay_13 ?_
      refine j_icmp_ge X 31 (by decide) dX3_lay_15 (fun c_2 => ?_) (fun c_2 => ?_)
      · have c_2 := (nI_leI (by omega) (by omega)).mp (show nI (40) ≤ nI i_1 from c_2)
        exact j_vret X hr hlocks dX3_lay_31 (sm_tr (sm_up (sm_up sm_rf rfl) rfl) (sm_w hs1 (by intro b k hb; simp only [Bool.or_eq_false_iff, Bool.and_eq_false_iff, beq_eq_false_iff_ne, ne_eq, decide_eq_false_iff_not] at hb ⊢; omega)))
      · have c_2 : i_1 < 40 := by
          rcases Nat.lt_or_ge i_1 (40) with g | g
          · exact g
          · exact absurd (show nI (40) ≤ nI i_1 from nI_le g (by omega)) c_2
        refine j_aload_n X 1 rfl rfl dX3_lay_18 ?_
        refine j_get X (by decide) (wE_3 _ rfl) rfl awF3 0 (by decide) aw_87 rfl (v := .ref (ad 77)) rfl dX3_lay_19 ?_
        refine j_iload_n X 0 rfl rfl dX3_lay_22 ?_
        refine j_iconst X (v := 0) (by decide) dX3_lay_23 ?_
        refine j_iast X (by decide) rfl (show vp_in (nI i_1) 40 from vp_in_nI (by omega) (by decide)) dX3_lay_24 ?_
        refine j_eqM (M1 := (up M1 77 i_1 0)) (by rw [nI_clamp (by omega)]) ?_
        refine j_iinc X (v := (nI (i_1 + 1))) 0 [(3, .int (nI (i_1 + 1))), (0, .ref (ad 76)), (1, .int b), (2, .int n)] rfl (show nI i_1 + Int32.ofInt 1 = _ from nI_1 i_1) (by decide) rfl dX3_lay_25 ?_
        refine j_goto X 12 (by decide) dX3_lay_28 ?_
        refine j_lv (lv1 := [(3, .int (nI (i_1 + 1))), (0, .ref (ad 76)), (1, .int b), (2, .int n)]) [0, 1, 2, 3] rfl ?_
        exact ih1 (i_1 + 1) _ (by omega) (by omega) (sm_up hs1 rfl)
  refine j_lv (lv1 := [(3, .int (nI 0)), (0, .ref (ad 76)), (1, .int b), (2, .int n)]) [0, 1, 2, 3] rfl ?_
  exact loop1 (40 + 1) 0 _ (by omega) (by omega) sm_rf
set_option maxRecDepth 100000 in
set_option maxHeartbeats 4000000 in
theorem c0_X7_sheet (l : Launch) (D : va_G) (y : wY) (ad : Nat → Nat) (M : Mem) (hz : Z0 M) (sh bits n : Int32) : MI l D y ad yX7_sheet (Cond.code yX7_sheet cX7_sheet 4 (some .int)) 6 M [.ref (ad 0), .int sh, .int bits, .int n] (fun r M' => sp_sheet sh bits n = r ∧ sm (fun b _ => decide (b < 79)) M M') := by
  refine MI_of (by decide) (Nat.le_of_ble_eq_true rfl) ?_
  intro p e s m args below meth c X hr hlocks
  refine j_lv (lv1 := [(0, .ref (ad 0)), (1, .int sh), (2, .int bits), (3, .int n)]) [0, 1, 2, 3] rfl ?_
  refine j_iload_n X 1 rfl rfl dX7_sheet_0 ?_
  refine j_callSI X (nn := 1) (As := [.int sh]) (st := []) aw_639 (c_X7_isSheet l D y ad M sh) aw_638 aw_640 aw_2 (by decide +kernel) ⟨by decide, by decide⟩ rfl (Nat.le_of_ble_eq_true rfl) ⟨by decide, by decide⟩ dX7_sheet_1 ?_
  rintro r_ M1_ (⟨rfl, rfl, h_1⟩ | ⟨rfl, rfl, h_1⟩)
  · refine j_if_eq X 29 (by decide) dX7_sheet_4 (fun c_2 => False.elim (by revert c_2; decide)) (fun c_2 => ?_)
    refine j_iload_n X 2 rfl rfl dX7_sheet_7 ?_
    refine j_if_eq X 36 (by decide) dX7_sheet_8 (fun c_3 => ?_) (fun c_3 => ?_)
    · have qc_3 := ti_eq (n := 0) (by decide) c_3
      refine j_iload_n X 2 rfl rfl dX7_sheet_36 ?_
      refine j_if_eq X 51 (by decide) dX7_sheet_37 (fun c_4 => ?_) (fun c_4 => False.elim (by rw [c_3] at c_4; revert c_4; decide))
      refine j_iload_n X 2 rfl rfl dX7_sheet_51 ?_
      refine j_if_eq X 68 (by decide) dX7_sheet_52 (fun c_5 => ?_) (fun c_5 => False.elim (by rw [c_3] at c_5; revert c_5; decide))
      refine j_aload_n X 0 rfl rfl dX7_sheet_68 ?_
      refine j_get X (by decide) (wE_7 _ rfl) rfl awF7 5 (by decide) aw_31 rfl (v := .ref (ad 69)) rfl dX7_sheet_69 ?_
      refine j_iload_n X 1 rfl rfl dX7_sheet_72 ?_
      rcases is_0_3 h_1 with rfl | rfl | rfl | rfl
      · refine j_aald11 X (by decide) rfl (by unfold vp_in; decide) dX7_sheet_73 ?_
        refine j_eqr (v := 70) rfl ?_
        refine j_iload_n X 2 rfl rfl dX7_sheet_74 ?_
        refine j_iload_n X 2 rfl rfl dX7_sheet_75 ?_
        refine j_if_ne X 83 (by decide) dX7_sheet_76 (fun c_6 => False.elim (by rw [c_3] at c_6; revert c_6; decide)) (fun c_6 => ?_)
        refine j_iconst X (v := 0) (by decide) dX7_sheet_79 ?_
        refine j_goto X 84 (by decide) dX7_sheet_80 ?_
        refine j_callVNV X (nn := 2) (As := [.int bits, .int 0]) (st := []) (ci := 3) (by decide) (wE_3 _ rfl) rfl aw_812 aw_813 (c_lay_70 l D y ad M bits 0) (List.mem_of_getElem? (i := 45) rfl) aw_814 aw_35 (by decide +kernel) ⟨by decide, by decide⟩ rfl (Nat.le_of_ble_eq_true rfl) ⟨by decide, by decide⟩ dX7_sheet_84 ?_
        rintro M_8 s_7
        refine j_iconst X (v := 1) (by decide) dX7_sheet_87 ?_
        exact j_iret X hr hlocks dX7_sheet_88 ⟨(by unfold sp_sheet; (repeat' split) <;> first | rfl | omega | (exfalso; omega)), (sm_tr sm_rf (sm_w s_7 (by intro b k hb; simp only [Bool.or_eq_false_iff, Bool.and_eq_false_iff, beq_eq_false_iff_ne, ne_eq, decide_eq_false_iff_not] at hb ⊢; omega)))⟩
      · refine j_aald11 X (by decide) rfl (by unfold vp_in; decide) dX7_sheet_73 ?_
        refine j_eqr (v := 72) rfl ?_
        refine j_iload_n X 2 rfl rfl dX7_sheet_74 ?_
        refine j_iload_n X 2 rfl rfl dX7_sheet_75 ?_
        refine j_if_ne X 83 (by decide) dX7_sheet_76 (fun c_9 => False.elim (by rw [c_3] at c_9; revert c_9; decide)) (fun c_9 => ?_)
        refine j_iconst X (v := 0) (by decide) dX7_sheet_79 ?_
        refine j_goto X 84 (by decide) dX7_sheet_80 ?_
        refine j_callVNV X (nn := 2) (As := [.int bits, .int 0]) (st := []) (ci := 3) (by decide) (wE_3 _ rfl) rfl aw_812 aw_813 (c_lay_72 l D y ad M bits 0) (List.mem_of_getElem? (i := 45) rfl) aw_814 aw_35 (by decide +kernel) ⟨by decide, by decide⟩ rfl (Nat.le_of_ble_eq_true rfl) ⟨by decide, by decide⟩ dX7_sheet_84 ?_
        rintro M_11 s_10
        refine j_iconst X (v := 1) (by decide) dX7_sheet_87 ?_
        exact j_iret X hr hlocks dX7_sheet_88 ⟨(by unfold sp_sheet; (repeat' split) <;> first | rfl | omega | (exfalso; omega)), (sm_tr sm_rf (sm_w s_10 (by intro b k hb; simp only [Bool.or_eq_false_iff, Bool.and_eq_false_iff, beq_eq_false_iff_ne, ne_eq, decide_eq_false_iff_not] at hb ⊢; omega)))⟩
      · refine j_aald11 X (by decide) rfl (by unfold vp_in; decide) dX7_sheet_73 ?_
        refine j_eqr (v := 74) rfl ?_
        refine j_iload_n X 2 rfl rfl dX7_sheet_74 ?_
        refine j_iload_n X 2 rfl rfl dX7_sheet_75 ?_
        refine j_if_ne X 83 (by decide) dX7_sheet_76 (fun c_12 => False.elim (by rw [c_3] at c_12; revert c_12; decide)) (fun c_12 => ?_)
        refine j_iconst X (v := 0) (by decide) dX7_sheet_79 ?_
        refine j_goto X 84 (by decide) dX7_sheet_80 ?_
        refine j_callVNV X (nn := 2) (As := [.int bits, .int 0]) (st := []) (ci := 3) (by decide) (wE_3 _ rfl) rfl aw_812 aw_813 (c_lay_74 l D y ad M bits 0) (List.mem_of_getElem? (i := 45) rfl) aw_814 aw_35 (by decide +kernel) ⟨by decide, by decide⟩ rfl (Nat.le_of_ble_eq_true rfl) ⟨by decide, by decide⟩ dX7_sheet_84 ?_
        rintro M_14 s_13
        refine j_iconst X (v := 1) (by decide) dX7_sheet_87 ?_
        exact j_iret X hr hlocks dX7_sheet_88 ⟨(by unfold sp_sheet; (repeat' split) <;> first | rfl | omega | (exfalso; omega)), (sm_tr sm_rf (sm_w s_13 (by intro b k hb; simp only [Bool.or_eq_false_iff, Bool.and_eq_false_iff, beq_eq_false_iff_ne, ne_eq, decide_eq_false_iff_not] at hb ⊢; omega)))⟩
      · refine j_aald11 X (by decide) rfl (by unfold vp_in; decide) dX7_sheet_73 ?_
        refine j_eqr (v := 76) rfl ?_
        refine j_iload_n X 2 rfl rfl dX7_sheet_74 ?_
        refine j_iload_n X 2 rfl rfl dX7_sheet_75 ?_
        refine j_if_ne X 83 (by decide) dX7_sheet_76 (fun c_15 => False.elim (by rw [c_3] at c_15; revert c_15; decide)) (fun c_15 => ?_)
        refine j_iconst X (v := 0) (by decide) dX7_sheet_79 ?_
        refine j_goto X 84 (by decide) dX7_sheet_80 ?_
        refine j_callVNV X (nn := 2) (As := [.int bits, .int 0]) (st := []) (ci := 3) (by decide) (wE_3 _ rfl) rfl aw_812 aw_813 (c_lay_76 l D y ad M bits 0) (List.mem_of_getElem? (i := 45) rfl) aw_814 aw_35 (by decide +kernel) ⟨by decide, by decide⟩ rfl (Nat.le_of_ble_eq_true rfl) ⟨by decide, by decide⟩ dX7_sheet_84 ?_
        rintro M_17 s_16
        refine j_iconst X (v := 1) (by decide) dX7_sheet_87 ?_
        exact j_iret X hr hlocks dX7_sheet_88 ⟨(by unfold sp_sheet; (repeat' split) <;> first | rfl | omega | (exfalso; omega)), (sm_tr sm_rf (sm_w s_16 (by intro b k hb; simp only [Bool.or_eq_false_iff, Bool.and_eq_false_iff, beq_eq_false_iff_ne, ne_eq, decide_eq_false_iff_not] at hb ⊢; omega)))⟩
    · have qc_3 := ti_ne (n := 0) (by decide) c_3
      refine j_iload_n X 2 rfl rfl dX7_sheet_11 ?_
      refine j_bipush X (v := 8) (by decide) dX7_sheet_12 ?_
      refine j_icmp_eq X 36 (by decide) dX7_sheet_14 (fun c_18 => ?_) (fun c_18 => ?_)
      · have qc_18 := ti_eq (n := 8) (by decide) c_18
        refine j_iload_n X 2 rfl rfl dX7_sheet_36 ?_
        refine j_if_eq X 51 (by decide) dX7_sheet_37 (fun c_19 => False.elim (by rw [c_18] at c_19; revert c_19; decide)) (fun c_19 => ?_)
        refine j_iload_n X 3 rfl rfl dX7_sheet_40 ?_
        refine j_if_ge X 51 (by decide) dX7_sheet_41 (fun c_20 => ?_) (fun c_20 => ?_)
        · have qc_20 := ti_le (a := 0) (b := n.toInt) (by decide) rfl c_20
          refine j_iload_n X 2 rfl rfl dX7_sheet_51 ?_
          refine j_if_eq X 68 (by decide) dX7_sheet_52 (fun c_21 => False.elim (by rw [c_18] at c_21; revert c_21; decide)) (fun c_21 => ?_)
          refine j_iload_n X 3 rfl rfl dX7_sheet_55 ?_
          refine j_bipush X (v := 40) (by decide) dX7_sheet_56 ?_
          refine j_icmp_le X 68 (by decide) dX7_sheet_58 (fun c_22 => ?_) (fun c_22 => ?_)
          · have qc_22 := ti_le (a := n.toInt) (b := 40) rfl (by decide) c_22
            refine j_aload_n X 0 rfl rfl dX7_sheet_68 ?_
            refine j_get X (by decide) (wE_7 _ rfl) rfl awF7 5 (by decide) aw_31 rfl (v := .ref (ad 69)) rfl dX7_sheet_69 ?_
            refine j_iload_n X 1 rfl rfl dX7_sheet_72 ?_
            rcases is_0_3 h_1 with rfl | rfl | rfl | rfl
            · refine j_aald11 X (by decide) rfl (by unfold vp_in; decide) dX7_sheet_73 ?_
              refine j_eqr (v := 70) rfl ?_
              refine j_iload_n X 2 rfl rfl dX7_sheet_74 ?_
              refine j_iload_n X 2 rfl rfl dX7_sheet_75 ?_
              refine j_if_ne X 83 (by decide) dX7_sheet_76 (fun c_23 => ?_) (fun c_23 => False.elim (by rw [c_18] at c_23; revert c_23; decide))
              refine j_iload_n X 3 rfl rfl dX7_sheet_83 ?_
              refine j_callVNV X (nn := 2) (As := [.int bits, .int n]) (st := []) (ci := 3) (by decide) (wE_3 _ rfl) rfl aw_812 aw_813 (c_lay_70 l D y ad M bits n) (List.mem_of_getElem? (i := 45) rfl) aw_814 aw_35 (by decide +kernel) ⟨by decide, by decide⟩ rfl (Nat.le_of_ble_eq_true rfl) ⟨by decide, by decide⟩ dX7_sheet_84 ?_
              rintro M_25 s_24
              refine j_iconst X (v := 1) (by decide) dX7_sheet_87 ?_
              exact j_iret X hr hlocks dX7_sheet_88 ⟨(by unfold sp_sheet; (repeat' split) <;> first | rfl | omega | (exfalso; omega)), (sm_tr sm_rf (sm_w s_24 (by intro b k hb; simp only [Bool.or_eq_false_iff, Bool.and_eq_false_iff, beq_eq_false_iff_ne, ne_eq, decide_eq_false_iff_not] at hb ⊢; omega)))⟩
            · refine j_aald11 X (by decide) rfl (by unfold vp_in; decide) dX7_sheet_73 ?_
              refine j_eqr (v := 72) rfl ?_
              refine j_iload_n X 2 rfl rfl dX7_sheet_74 ?_
              refine j_iload_n X 2 rfl rfl dX7_sheet_75 ?_
              refine j_if_ne X 83 (by decide) dX7_sheet_76 (fun c_26 => ?_) (fun c_26 => False.elim (by rw [c_18] at c_26; revert c_26; decide))
              refine j_iload_n X 3 rfl rfl dX7_sheet_83 ?_
              refine j_callVNV X (nn := 2) (As := [.int bits, .int n]) (st := []) (ci := 3) (by decide) (wE_3 _ rfl) rfl aw_812 aw_813 (c_lay_72 l D y ad M bits n) (List.mem_of_getElem? (i := 45) rfl) aw_814 aw_35 (by decide +kernel) ⟨by decide, by decide⟩ rfl (Nat.le_of_ble_eq_true rfl) ⟨by decide, by decide⟩ dX7_sheet_84 ?_
              rintro M_28 s_27
              refine j_iconst X (v := 1) (by decide) dX7_sheet_87 ?_
              exact j_iret X hr hlocks dX7_sheet_88 ⟨(by unfold sp_sheet; (repeat' split) <;> first | rfl | omega | (exfalso; omega)), (sm_tr sm_rf (sm_w s_27 (by intro b k hb; simp only [Bool.or_eq_false_iff, Bool.and_eq_false_iff, beq_eq_false_iff_ne, ne_eq, decide_eq_false_iff_not] at hb ⊢; omega)))⟩
            · refine j_aald11 X (by decide) rfl (by unfold vp_in; decide) dX7_sheet_73 ?_
              refine j_eqr (v := 74) rfl ?_
              refine j_iload_n X 2 rfl rfl dX7_sheet_74 ?_
              refine j_iload_n X 2 rfl rfl dX7_sheet_75 ?_
              refine j_if_ne X 83 (by decide) dX7_sheet_76 (fun c_29 => ?_) (fun c_29 => False.elim (by rw [c_18] at c_29; revert c_29; decide))
              refine j_iload_n X 3 rfl rfl dX7_sheet_83 ?_
              refine j_callVNV X (nn := 2) (As := [.int bits, .int n]) (st := []) (ci := 3) (by decide) (wE_3 _ rfl) rfl aw_812 aw_813 (c_lay_74 l D y ad M bits n) (List.mem_of_getElem? (i := 45) rfl) aw_814 aw_35 (by decide +kernel) ⟨by decide, by decide⟩ rfl (Nat.le_of_ble_eq_true rfl) ⟨by decide, by decide⟩ dX7_sheet_84 ?_
              rintro M_31 s_30
              refine j_iconst X (v := 1) (by decide) dX7_sheet_87 ?_
              exact j_iret X hr hlocks dX7_sheet_88 ⟨(by unfold sp_sheet; (repeat' split) <;> first | rfl | omega | (exfalso; omega)), (sm_tr sm_rf (sm_w s_30 (by intro b k hb; simp only [Bool.or_eq_false_iff, Bool.and_eq_false_iff, beq_eq_false_iff_ne, ne_eq, decide_eq_false_iff_not] at hb ⊢; omega)))⟩
            · refine j_aald11 X (by decide) rfl (by unfold vp_in; decide) dX7_sheet_73 ?_
              refine j_eqr (v := 76) rfl ?_
              refine j_iload_n X 2 rfl rfl dX7_sheet_74 ?_
              refine j_iload_n X 2 rfl rfl dX7_sheet_75 ?_
              refine j_if_ne X 83 (by decide) dX7_sheet_76 (fun c_32 => ?_) (fun c_32 => False.elim (by rw [c_18] at c_32; revert c_32; decide))
              refine j_iload_n X 3 rfl rfl dX7_sheet_83 ?_
              refine j_callVNV X (nn := 2) (As := [.int bits, .int n]) (st := []) (ci := 3) (by decide) (wE_3 _ rfl) rfl aw_812 aw_813 (c_lay_76 l D y ad M bits n) (List.mem_of_getElem? (i := 45) rfl) aw_814 aw_35 (by decide +kernel) ⟨by decide, by decide⟩ rfl (Nat.le_of_ble_eq_true rfl) ⟨by decide, by decide⟩ dX7_sheet_84 ?_
              rintro M_34 s_33
              refine j_iconst X (v := 1) (by decide) dX7_sheet_87 ?_
              exact j_iret X hr hlocks dX7_sheet_88 ⟨(by unfold sp_sheet; (repeat' split) <;> first | rfl | omega | (exfalso; omega)), (sm_tr sm_rf (sm_w s_33 (by intro b k hb; simp only [Bool.or_eq_false_iff, Bool.and_eq_false_iff, beq_eq_false_iff_ne, ne_eq, decide_eq_false_iff_not] at hb ⊢; omega)))⟩
          · have qc_22 := ti_nle (a := n.toInt) (b := 40) rfl (by decide) c_22
            refine j_aload_n X 0 rfl rfl dX7_sheet_61 ?_
            refine j_ldc X (v := (-1000000001)) aw_108 dX7_sheet_62 ?_
            refine j_callVI X (nn := 1) (As := [.int (-1000000001)]) (st := []) (ci := 7) (by decide) (wE_7 _ rfl) rfl aw_117 aw_118 (c_X7_refuse l D y ad M (-1000000001) 1 (by decide) (by decide)) aw_116 aw_119 aw_2 (by decide +kernel) ⟨by decide, by decide⟩ rfl (Nat.le_of_ble_eq_true rfl) ⟨by decide, by decide⟩ dX7_sheet_64 ?_
            rintro r_ M1_ ⟨rfl, rfl⟩
            exact j_iret X hr hlocks dX7_sheet_67 ⟨(by unfold sp_sheet; (repeat' split) <;> first | rfl | omega | (exfalso; omega)), (sm_up sm_rf rfl)⟩
        · have qc_20 := ti_nle (a := 0) (b := n.toInt) (by decide) rfl c_20
          refine j_aload_n X 0 rfl rfl dX7_sheet_44 ?_
          refine j_ldc X (v := (-1000000003)) aw_438 dX7_sheet_45 ?_
          refine j_callVI X (nn := 1) (As := [.int (-1000000003)]) (st := []) (ci := 7) (by decide) (wE_7 _ rfl) rfl aw_117 aw_118 (c_X7_refuse l D y ad M (-1000000003) 3 (by decide) (by decide)) aw_116 aw_119 aw_2 (by decide +kernel) ⟨by decide, by decide⟩ rfl (Nat.le_of_ble_eq_true rfl) ⟨by decide, by decide⟩ dX7_sheet_47 ?_
          rintro r_ M1_ ⟨rfl, rfl⟩
          exact j_iret X hr hlocks dX7_sheet_50 ⟨(by unfold sp_sheet; (repeat' split) <;> first | rfl | omega | (exfalso; omega)), (sm_up sm_rf rfl)⟩
      · have qc_18 := ti_ne (n := 8) (by decide) c_18
        refine j_iload_n X 2 rfl rfl dX7_sheet_17 ?_
        refine j_bipush X (v := 16) (by decide) dX7_sheet_18 ?_
        refine j_icmp_eq X 36 (by decide) dX7_sheet_20 (fun c_35 => ?_) (fun c_35 => ?_)
        · have qc_35 := ti_eq (n := 16) (by decide) c_35
          refine j_iload_n X 2 rfl rfl dX7_sheet_36 ?_
          refine j_if_eq X 51 (by decide) dX7_sheet_37 (fun c_36 => False.elim (by rw [c_35] at c_36; revert c_36; decide)) (fun c_36 => ?_)
          refine j_iload_n X 3 rfl rfl dX7_sheet_40 ?_
          refine j_if_ge X 51 (by decide) dX7_sheet_41 (fun c_37 => ?_) (fun c_37 => ?_)
          · have qc_37 := ti_le (a := 0) (b := n.toInt) (by decide) rfl c_37
            refine j_iload_n X 2 rfl rfl dX7_sheet_51 ?_
            refine j_if_eq X 68 (by decide) dX7_sheet_52 (fun c_38 => False.elim (by rw [c_35] at c_38; revert c_38; decide)) (fun c_38 => ?_)
            refine j_iload_n X 3 rfl rfl dX7_sheet_55 ?_
            refine j_bipush X (v := 40) (by decide) dX7_sheet_56 ?_
            refine j_icmp_le X 68 (by decide) dX7_sheet_58 (fun c_39 => ?_) (fun c_39 => ?_)
            · have qc_39 := ti_le (a := n.toInt) (b := 40) rfl (by decide) c_39
              refine j_aload_n X 0 rfl rfl dX7_sheet_68 ?_
              refine j_get X (by decide) (wE_7 _ rfl) rfl awF7 5 (by decide) aw_31 rfl (v := .ref (ad 69)) rfl dX7_sheet_69 ?_
              refine j_iload_n X 1 rfl rfl dX7_sheet_72 ?_
              rcases is_0_3 h_1 with rfl | rfl | rfl | rfl
              · refine j_aald11 X (by decide) rfl (by unfold vp_in; decide) dX7_sheet_73 ?_
                refine j_eqr (v := 70) rfl ?_
                refine j_iload_n X 2 rfl rfl dX7_sheet_74 ?_
                refine j_iload_n X 2 rfl rfl dX7_sheet_75 ?_
                refine j_if_ne X 83 (by decide) dX7_sheet_76 (fun c_40 => ?_) (fun c_40 => False.elim (by rw [c_35] at c_40; revert c_40; decide))
                refine j_iload_n X 3 rfl rfl dX7_sheet_83 ?_
                refine j_callVNV X (nn := 2) (As := [.int bits, .int n]) (st := []) (ci := 3) (by decide) (wE_3 _ rfl) rfl aw_812 aw_813 (c_lay_70 l D y ad M bits n) (List.mem_of_getElem? (i := 45) rfl) aw_814 aw_35 (by decide +kernel) ⟨by decide, by decide⟩ rfl (Nat.le_of_ble_eq_true rfl) ⟨by decide, by decide⟩ dX7_sheet_84 ?_
                rintro M_42 s_41
                refine j_iconst X (v := 1) (by decide) dX7_sheet_87 ?_
                exact j_iret X hr hlocks dX7_sheet_88 ⟨(by unfold sp_sheet; (repeat' split) <;> first | rfl | omega | (exfalso; omega)), (sm_tr sm_rf (sm_w s_41 (by intro b k hb; simp only [Bool.or_eq_false_iff, Bool.and_eq_false_iff, beq_eq_false_iff_ne, ne_eq, decide_eq_false_iff_not] at hb ⊢; omega)))⟩
              · refine j_aald11 X (by decide) rfl (by unfold vp_in; decide) dX7_sheet_73 ?_
                refine j_eqr (v := 72) rfl ?_
                refine j_iload_n X 2 rfl rfl dX7_sheet_74 ?_
                refine j_iload_n X 2 rfl rfl dX7_sheet_75 ?_
                refine j_if_ne X 83 (by decide) dX7_sheet_76 (fun c_43 => ?_) (fun c_43 => False.elim (by rw [c_35] at c_43; revert c_43; decide))
                refine j_iload_n X 3 rfl rfl dX7_sheet_83 ?_
                refine j_callVNV X (nn := 2) (As := [.int bits, .int n]) (st := []) (ci := 3) (by decide) (wE_3 _ rfl) rfl aw_812 aw_813 (c_lay_72 l D y ad M bits n) (List.mem_of_getElem? (i := 45) rfl) aw_814 aw_35 (by decide +kernel) ⟨by decide, by decide⟩ rfl (Nat.le_of_ble_eq_true rfl) ⟨by decide, by decide⟩ dX7_sheet_84 ?_
                rintro M_45 s_44
                refine j_iconst X (v := 1) (by decide) dX7_sheet_87 ?_
                exact j_iret X hr hlocks dX7_sheet_88 ⟨(by unfold sp_sheet; (repeat' split) <;> first | rfl | omega | (exfalso; omega)), (sm_tr sm_rf (sm_w s_44 (by intro b k hb; simp only [Bool.or_eq_false_iff, Bool.and_eq_false_iff, beq_eq_false_iff_ne, ne_eq, decide_eq_false_iff_not] at hb ⊢; omega)))⟩
              · refine j_aald11 X (by decide) rfl (by unfold vp_in; decide) dX7_sheet_73 ?_
                refine j_eqr (v := 74) rfl ?_
                refine j_iload_n X 2 rfl rfl dX7_sheet_74 ?_
                refine j_iload_n X 2 rfl rfl dX7_sheet_75 ?_
                refine j_if_ne X 83 (by decide) dX7_sheet_76 (fun c_46 => ?_) (fun c_46 => False.elim (by rw [c_35] at c_46; revert c_46; decide))
                refine j_iload_n X 3 rfl rfl dX7_sheet_83 ?_
                refine j_callVNV X (nn := 2) (As := [.int bits, .int n]) (st := []) (ci := 3) (by decide) (wE_3 _ rfl) rfl aw_812 aw_813 (c_lay_74 l D y ad M bits n) (List.mem_of_getElem? (i := 45) rfl) aw_814 aw_35 (by decide +kernel) ⟨by decide, by decide⟩ rfl (Nat.le_of_ble_eq_true rfl) ⟨by decide, by decide⟩ dX7_sheet_84 ?_
                rintro M_48 s_47
                refine j_iconst X (v := 1) (by decide) dX7_sheet_87 ?_
                exact j_iret X hr hlocks dX7_sheet_88 ⟨(by unfold sp_sheet; (repeat' split) <;> first | rfl | omega | (exfalso; omega)), (sm_tr sm_rf (sm_w s_47 (by intro b k hb; simp only [Bool.or_eq_false_iff, Bool.and_eq_false_iff, beq_eq_false_iff_ne, ne_eq, decide_eq_false_iff_not] at hb ⊢; omega)))⟩
              · refine j_aald11 X (by decide) rfl (by unfold vp_in; decide) dX7_sheet_73 ?_
                refine j_eqr (v := 76) rfl ?_
                refine j_iload_n X 2 rfl rfl dX7_sheet_74 ?_
                refine j_iload_n X 2 rfl rfl dX7_sheet_75 ?_
                refine j_if_ne X 83 (by decide) dX7_sheet_76 (fun c_49 => ?_) (fun c_49 => False.elim (by rw [c_35] at c_49; revert c_49; decide))
                refine j_iload_n X 3 rfl rfl dX7_sheet_83 ?_
                refine j_callVNV X (nn := 2) (As := [.int bits, .int n]) (st := []) (ci := 3) (by decide) (wE_3 _ rfl) rfl aw_812 aw_813 (c_lay_76 l D y ad M bits n) (List.mem_of_getElem? (i := 45) rfl) aw_814 aw_35 (by decide +kernel) ⟨by decide, by decide⟩ rfl (Nat.le_of_ble_eq_true rfl) ⟨by decide, by decide⟩ dX7_sheet_84 ?_
                rintro M_51 s_50
                refine j_iconst X (v := 1) (by decide) dX7_sheet_87 ?_
                exact j_iret X hr hlocks dX7_sheet_88 ⟨(by unfold sp_sheet; (repeat' split) <;> first | rfl | omega | (exfalso; omega)), (sm_tr sm_rf (sm_w s_50 (by intro b k hb; simp only [Bool.or_eq_false_iff, Bool.and_eq_false_iff, beq_eq_false_iff_ne, ne_eq, decide_eq_false_iff_not] at hb ⊢; omega)))⟩
            · have qc_39 := ti_nle (a := n.toInt) (b := 40) rfl (by decide) c_39
              refine j_aload_n X 0 rfl rfl dX7_sheet_61 ?_
              refine j_ldc X (v := (-1000000001)) aw_108 dX7_sheet_62 ?_
              refine j_callVI X (nn := 1) (As := [.int (-1000000001)]) (st := []) (ci := 7) (by decide) (wE_7 _ rfl) rfl aw_117 aw_118 (c_X7_refuse l D y ad M (-1000000001) 1 (by decide) (by decide)) aw_116 aw_119 aw_2 (by decide +kernel) ⟨by decide, by decide⟩ rfl (Nat.le_of_ble_eq_true rfl) ⟨by decide, by decide⟩ dX7_sheet_64 ?_
              rintro r_ M1_ ⟨rfl, rfl⟩
              exact j_iret X hr hlocks dX7_sheet_67 ⟨(by unfold sp_sheet; (repeat' split) <;> first | rfl | omega | (exfalso; omega)), (sm_up sm_rf rfl)⟩
          · have qc_37 := ti_nle (a := 0) (b := n.toInt) (by decide) rfl c_37
            refine j_aload_n X 0 rfl rfl dX7_sheet_44 ?_
            refine j_ldc X (v := (-1000000003)) aw_438 dX7_sheet_45 ?_
            refine j_callVI X (nn := 1) (As := [.int (-1000000003)]) (st := []) (ci := 7) (by decide) (wE_7 _ rfl) rfl aw_117 aw_118 (c_X7_refuse l D y ad M (-1000000003) 3 (by decide) (by decide)) aw_116 aw_119 aw_2 (by decide +kernel) ⟨by decide, by decide⟩ rfl (Nat.le_of_ble_eq_true rfl) ⟨by decide, by decide⟩ dX7_sheet_47 ?_
            rintro r_ M1_ ⟨rfl, rfl⟩
            exact j_iret X hr hlocks dX7_sheet_50 ⟨(by unfold sp_sheet; (repeat' split) <;> first | rfl | omega | (exfalso; omega)), (sm_up sm_rf rfl)⟩
        · have qc_35 := ti_ne (n := 16) (by decide) c_35
          refine j_iload_n X 2 rfl rfl dX7_sheet_23 ?_
          refine j_bipush X (v := 32) (by decide) dX7_sheet_24 ?_
          refine j_icmp_eq X 36 (by decide) dX7_sheet_26 (fun c_52 => ?_) (fun c_52 => ?_)
          · have qc_52 := ti_eq (n := 32) (by decide) c_52
            refine j_iload_n X 2 rfl rfl dX7_sheet_36 ?_
            refine j_if_eq X 51 (by decide) dX7_sheet_37 (fun c_53 => False.elim (by rw [c_52] at c_53; revert c_53; decide)) (fun c_53 => ?_)
            refine j_iload_n X 3 rfl rfl dX7_sheet_40 ?_
            refine j_if_ge X 51 (by decide) dX7_sheet_41 (fun c_54 => ?_) (fun c_54 => ?_)
            · have qc_54 := ti_le (a := 0) (b := n.toInt) (by decide) rfl c_54
              refine j_iload_n X 2 rfl rfl dX7_sheet_51 ?_
              refine j_if_eq X 68 (by decide) dX7_sheet_52 (fun c_55 => False.elim (by rw [c_52] at c_55; revert c_55; decide)) (fun c_55 => ?_)
              refine j_iload_n X 3 rfl rfl dX7_sheet_55 ?_
              refine j_bipush X (v := 40) (by decide) dX7_sheet_56 ?_
              refine j_icmp_le X 68 (by decide) dX7_sheet_58 (fun c_56 => ?_) (fun c_56 => ?_)
              · have qc_56 := ti_le (a := n.toInt) (b := 40) rfl (by decide) c_56
                refine j_aload_n X 0 rfl rfl dX7_sheet_68 ?_
                refine j_get X (by decide) (wE_7 _ rfl) rfl awF7 5 (by decide) aw_31 rfl (v := .ref (ad 69)) rfl dX7_sheet_69 ?_
                refine j_iload_n X 1 rfl rfl dX7_sheet_72 ?_
                rcases is_0_3 h_1 with rfl | rfl | rfl | rfl
                · refine j_aald11 X (by decide) rfl (by unfold vp_in; decide) dX7_sheet_73 ?_
                  refine j_eqr (v := 70) rfl ?_
                  refine j_iload_n X 2 rfl rfl dX7_sheet_74 ?_
                  refine j_iload_n X 2 rfl rfl dX7_sheet_75 ?_
                  refine j_if_ne X 83 (by decide) dX7_sheet_76 (fun c_57 => ?_) (fun c_57 => False.elim (by rw [c_52] at c_57; revert c_57; decide))
                  refine j_iload_n X 3 rfl rfl dX7_sheet_83 ?_
                  refine j_callVNV X (nn := 2) (As := [.int bits, .int n]) (st := []) (ci := 3) (by decide) (wE_3 _ rfl) rfl aw_812 aw_813 (c_lay_70 l D y ad M bits n) (List.mem_of_getElem? (i := 45) rfl) aw_814 aw_35 (by decide +kernel) ⟨by decide, by decide⟩ rfl (Nat.le_of_ble_eq_true rfl) ⟨by decide, by decide⟩ dX7_sheet_84 ?_
                  rintro M_59 s_58
                  refine j_iconst X (v := 1) (by decide) dX7_sheet_87 ?_
                  exact j_iret X hr hlocks dX7_sheet_88 ⟨(by unfold sp_sheet; (repeat' split) <;> first | rfl | omega | (exfalso; omega)), (sm_tr sm_rf (sm_w s_58 (by intro b k hb; simp only [Bool.or_eq_false_iff, Bool.and_eq_false_iff, beq_eq_false_iff_ne, ne_eq, decide_eq_false_iff_not] at hb ⊢; omega)))⟩
                · refine j_aald11 X (by decide) rfl (by unfold vp_in; decide) dX7_sheet_73 ?_
                  refine j_eqr (v := 72) rfl ?_
                  refine j_iload_n X 2 rfl rfl dX7_sheet_74 ?_
                  refine j_iload_n X 2 rfl rfl dX7_sheet_75 ?_
                  refine j_if_ne X 83 (by decide) dX7_sheet_76 (fun c_60 => ?_) (fun c_60 => False.elim (by rw [c_52] at c_60; revert c_60; decide))
                  refine j_iload_n X 3 rfl rfl dX7_sheet_83 ?_
                  refine j_callVNV X (nn := 2) (As := [.int bits, .int n]) (st := []) (ci := 3) (by decide) (wE_3 _ rfl) rfl aw_812 aw_813 (c_lay_72 l D y ad M bits n) (List.mem_of_getElem? (i := 45) rfl) aw_814 aw_35 (by decide +kernel) ⟨by decide, by decide⟩ rfl (Nat.le_of_ble_eq_true rfl) ⟨by decide, by decide⟩ dX7_sheet_84 ?_
                  rintro M_62 s_61
                  refine j_iconst X (v := 1) (by decide) dX7_sheet_87 ?_
                  exact j_iret X hr hlocks dX7_sheet_88 ⟨(by unfold sp_sheet; (repeat' split) <;> first | rfl | omega | (exfalso; omega)), (sm_tr sm_rf (sm_w s_61 (by intro b k hb; simp only [Bool.or_eq_false_iff, Bool.and_eq_false_iff, beq_eq_false_iff_ne, ne_eq, decide_eq_false_iff_not] at hb ⊢; omega)))⟩
                · refine j_aald11 X (by decide) rfl (by unfold vp_in; decide) dX7_sheet_73 ?_
                  refine j_eqr (v := 74) rfl ?_
                  refine j_iload_n X 2 rfl rfl dX7_sheet_74 ?_
                  refine j_iload_n X 2 rfl rfl dX7_sheet_75 ?_
                  refine j_if_ne X 83 (by decide) dX7_sheet_76 (fun c_63 => ?_) (fun c_63 => False.elim (by rw [c_52] at c_63; revert c_63; decide))
                  refine j_iload_n X 3 rfl rfl dX7_sheet_83 ?_
                  refine j_callVNV X (nn := 2) (As := [.int bits, .int n]) (st := []) (ci := 3) (by decide) (wE_3 _ rfl) rfl aw_812 aw_813 (c_lay_74 l D y ad M bits n) (List.mem_of_getElem? (i := 45) rfl) aw_814 aw_35 (by decide +kernel) ⟨by decide, by decide⟩ rfl (Nat.le_of_ble_eq_true rfl) ⟨by decide, by decide⟩ dX7_sheet_84 ?_
                  rintro M_65 s_64
                  refine j_iconst X (v := 1) (by decide) dX7_sheet_87 ?_
                  exact j_iret X hr hlocks dX7_sheet_88 ⟨(by unfold sp_sheet; (repeat' split) <;> first | rfl | omega | (exfalso; omega)), (sm_tr sm_rf (sm_w s_64 (by intro b k hb; simp only [Bool.or_eq_false_iff, Bool.and_eq_false_iff, beq_eq_false_iff_ne, ne_eq, decide_eq_false_iff_not] at hb ⊢; omega)))⟩
                · refine j_aald11 X (by decide) rfl (by unfold vp_in; decide) dX7_sheet_73 ?_
                  refine j_eqr (v := 76) rfl ?_
                  refine j_iload_n X 2 rfl rfl dX7_sheet_74 ?_
                  refine j_iload_n X 2 rfl rfl dX7_sheet_75 ?_
                  refine j_if_ne X 83 (by decide) dX7_sheet_76 (fun c_66 => ?_) (fun c_66 => False.elim (by rw [c_52] at c_66; revert c_66; decide))
                  refine j_iload_n X 3 rfl rfl dX7_sheet_83 ?_
                  refine j_callVNV X (nn := 2) (As := [.int bits, .int n]) (st := []) (ci := 3) (by decide) (wE_3 _ rfl) rfl aw_812 aw_813 (c_lay_76 l D y ad M bits n) (List.mem_of_getElem? (i := 45) rfl) aw_814 aw_35 (by decide +kernel) ⟨by decide, by decide⟩ rfl (Nat.le_of_ble_eq_true rfl) ⟨by decide, by decide⟩ dX7_sheet_84 ?_
                  rintro M_68 s_67
                  refine j_iconst X (v := 1) (by decide) dX7_sheet_87 ?_
                  exact j_iret X hr hlocks dX7_sheet_88 ⟨(by unfold sp_sheet; (repeat' split) <;> first | rfl | omega | (exfalso; omega)), (sm_tr sm_rf (sm_w s_67 (by intro b k hb; simp only [Bool.or_eq_false_iff, Bool.and_eq_false_iff, beq_eq_false_iff_ne, ne_eq, decide_eq_false_iff_not] at hb ⊢; omega)))⟩
              · have qc_56 := ti_nle (a := n.toInt) (b := 40) rfl (by decide) c_56
                refine j_aload_n X 0 rfl rfl dX7_sheet_61 ?_
                refine j_ldc X (v := (-1000000001)) aw_108 dX7_sheet_62 ?_
                refine j_callVI X (nn := 1) (As := [.int (-1000000001)]) (st := []) (ci := 7) (by decide) (wE_7 _ rfl) rfl aw_117 aw_118 (c_X7_refuse l D y ad M (-1000000001) 1 (by decide) (by decide)) aw_116 aw_119 aw_2 (by decide +kernel) ⟨by decide, by decide⟩ rfl (Nat.le_of_ble_eq_true rfl) ⟨by decide, by decide⟩ dX7_sheet_64 ?_
                rintro r_ M1_ ⟨rfl, rfl⟩
                exact j_iret X hr hlocks dX7_sheet_67 ⟨(by unfold sp_sheet; (repeat' split) <;> first | rfl | omega | (exfalso; omega)), (sm_up sm_rf rfl)⟩
            · have qc_54 := ti_nle (a := 0) (b := n.toInt) (by decide) rfl c_54
              refine j_aload_n X 0 rfl rfl dX7_sheet_44 ?_
              refine j_ldc X (v := (-1000000003)) aw_438 dX7_sheet_45 ?_
              refine j_callVI X (nn := 1) (As := [.int (-1000000003)]) (st := []) (ci := 7) (by decide) (wE_7 _ rfl) rfl aw_117 aw_118 (c_X7_refuse l D y ad M (-1000000003) 3 (by decide) (by decide)) aw_116 aw_119 aw_2 (by decide +kernel) ⟨by decide, by decide⟩ rfl (Nat.le_of_ble_eq_true rfl) ⟨by decide, by decide⟩ dX7_sheet_47 ?_
              rintro r_ M1_ ⟨rfl, rfl⟩
              exact j_iret X hr hlocks dX7_sheet_50 ⟨(by unfold sp_sheet; (repeat' split) <;> first | rfl | omega | (exfalso; omega)), (sm_up sm_rf rfl)⟩
          · have qc_52 := ti_ne (n := 32) (by decide) c_52
            refine j_aload_n X 0 rfl rfl dX7_sheet_29 ?_
            refine j_ldc X (v := (-1000000001)) aw_108 dX7_sheet_30 ?_
            refine j_callVI X (nn := 1) (As := [.int (-1000000001)]) (st := []) (ci := 7) (by decide) (wE_7 _ rfl) rfl aw_117 aw_118 (c_X7_refuse l D y ad M (-1000000001) 1 (by decide) (by decide)) aw_116 aw_119 aw_2 (by decide +kernel) ⟨by decide, by decide⟩ rfl (Nat.le_of_ble_eq_true rfl) ⟨by decide, by decide⟩ dX7_sheet_32 ?_
            rintro r_ M1_ ⟨rfl, rfl⟩
            exact j_iret X hr hlocks dX7_sheet_35 ⟨(by unfold sp_sheet; (repeat' split) <;> first | rfl | omega | (exfalso; omega)), (sm_up sm_rf rfl)⟩
  · refine j_if_eq X 29 (by decide) dX7_sheet_4 (fun c_69 => ?_) (fun c_69 => False.elim (by revert c_69; decide))
    refine j_aload_n X 0 rfl rfl dX7_sheet_29 ?_
    refine j_ldc X (v := (-1000000001)) aw_108 dX7_sheet_30 ?_
    refine j_callVI X (nn := 1) (As := [.int (-1000000001)]) (st := []) (ci := 7) (by decide) (wE_7 _ rfl) rfl aw_117 aw_118 (c_X7_refuse l D y ad M (-1000000001) 1 (by decide) (by decide)) aw_116 aw_119 aw_2 (by decide +kernel) ⟨by decide, by decide⟩ rfl (Nat.le_of_ble_eq_true rfl) ⟨by decide, by decide⟩ dX7_sheet_32 ?_
    rintro r_ M1_ ⟨rfl, rfl⟩
    exact j_iret X hr hlocks dX7_sheet_35 ⟨(by unfold sp_sheet; (repeat' split) <;> first | rfl | omega | (exfalso; omega)), (sm_up sm_rf rfl)⟩
set_option maxRecDepth 100000 in
set_option maxHeartbeats 4000000 in
theorem c0_X7_feed (l : Launch) (D : va_G) (y : wY) (ad : Nat → Nat) (M : Mem) (hz : Z0 M) (w : Int64) (n : Int32) : MI l D y ad yX7_feed (Cond.code yX7_feed cX7_feed 5 (some .int)) 6 M [.ref (ad 0), .long w, .int n] (fun r M' => sp_feed w n = r ∧ sm (fun b _ => decide (b < 79)) M M') := by
  refine MI_of (by decide) (Nat.le_of_ble_eq_true rfl) ?_
  intro p e s m args below meth c X hr hlocks
  refine j_lv (lv1 := [(0, .ref (ad 0)), (1, .long w), (3, .int n)]) [0, 1, 2] rfl ?_
  refine j_iload_n X 2 rfl rfl dX7_feed_0 ?_
  refine j_iconst X (v := 1) (by decide) dX7_feed_1 ?_
  refine j_bipush X (v := 8) (by decide) dX7_feed_2 ?_
  refine j_callSI X (nn := 3) (As := [.int n, .int 1, .int 8]) (st := []) aw_110 (c_X7_isWithin l D y ad M n 1 8 1 8 (by decide) (by decide)) aw_109 aw_111 aw_2 (by decide +kernel) ⟨by decide, by decide⟩ rfl (Nat.le_of_ble_eq_true rfl) ⟨by decide, by decide⟩ dX7_feed_4 ?_
  rintro r_ M1_ (⟨rfl, rfl, h_1⟩ | ⟨rfl, rfl, h_1⟩)
  · refine j_if_ne X 17 (by decide) dX7_feed_7 (fun c_2 => ?_) (fun c_2 => False.elim (by revert c_2; decide))
    obtain ⟨N, hN, rfl⟩ := nI_oft (x := n) (n := 8) (by omega) (by omega) (by decide)
    rw [nI_ti hN (by decide)] at h_1
    refine j_aload_n X 0 rfl rfl dX7_feed_17 ?_
    refine j_get X (by decide) (wE_7 _ rfl) rfl awF7 0 (by decide) aw_16 rfl (v := .ref (ad 1)) rfl dX7_feed_18 ?_
    refine j_getN X (by decide) (wE_6 _ rfl) rfl awF6 5 (by decide) (List.mem_of_getElem? (i := 26) rfl) rfl (v := .int (M 1 5)) rfl dX7_feed_21 ?_
    refine j_eqi (v := 0) hz.2.2.2.2.2.2.1 ?_
    refine j_iload_n X 2 rfl rfl dX7_feed_24 ?_
    refine j_iadd X dX7_feed_25 ?_
    refine j_eqi (v := (nI N)) (Int32.zero_add _) ?_
    refine j_bipush X (v := 50) (by decide) dX7_feed_26 ?_
    refine j_icmp_le X 38 (by decide) dX7_feed_28 (fun c_3 => ?_) (fun c_3 => False.elim (c_3 (show nI N ≤ nI 50 from nI_le (by omega) (by decide))))
    refine j_iconst X (v := 0) (by decide) dX7_feed_38 ?_
    refine j_istore X [(4, .int 0), (0, .ref (ad 0)), (1, .long w), (3, .int (nI N))] (by decide) rfl dX7_feed_39 ?_
    have loop4 : ∀ (n_4 i_4 : Nat) (M4 : Mem), i_4 ≤ N → N - i_4 < n_4 → sm (fun b _ => b == 23) M M4 → J p l e (rmN 6) s m args below meth c 0 0 (QI (fun r M' => sp_feed w (nI N) = r ∧ sm (fun b _ => decide (b < 79)) M M') D y ad M s args below) D y ad (va_A (PL y ad M) s.heap.size) 5 M4 41 [(4, .int (nI i_4)), (0, .ref (ad 0)), (1, .long w), (3, .int (nI N))] [] := by
      intro n_4
      induction n_4 with
      | zero => intro i_4 M4 h1 h2; exact absurd h2 (by omega)
      | succ n_4 ih4 =>
        intro i_4 M4 h1i_4 h2i_4 hs4
        refine j_iload X 0 rfl dX7_feed_41 ?_
        refine j_iload_n X 3 rfl rfl dX7_feed_43 ?_
        refine j_icmp_ge X 83 (by decide) dX7_feed_44 (fun c_5 => ?_) (fun c_5 => ?_)
        · have c_5 := (nI_leI (by omega) (by omega)).mp (show nI (N) ≤ nI i_4 from c_5)
          refine j_aload_n X 1 rfl rfl dX7_feed_83 ?_
          refine j_get X (by decide) (wE_7 _ rfl) rfl awF7 0 (by decide) aw_16 rfl (v := .ref (ad 1)) rfl dX7_feed_84 ?_
          refine j_dup X rfl dX7_feed_87 ?_
          refine j_getN X (by decide) (wE_6 _ rfl) rfl awF6 5 (by decide) (List.mem_of_getElem? (i := 26) rfl) rfl (v := .int (M4 1 5)) rfl dX7_feed_88 ?_
          refine j_eqi (v := 0) ((hs4 1 5 rfl).trans hz.2.2.2.2.2.2.1) ?_
          refine j_iload_n X 3 rfl rfl dX7_feed_91 ?_
          refine j_iadd X dX7_feed_92 ?_
          refine j_eqi (v := (nI N)) (Int32.zero_add _) ?_
          refine j_putN X (up M4 1 5 (nI N)) up_o (by decide) (wE_6 _ rfl) rfl awF6 5 (by decide) (wP_6_5 _ _ rfl) tyX6 tyX6_ok nmX6 rfl (ty := .int) (by decide +kernel) rfl rfl (Nat.le_of_ble_eq_true rfl) (List.mem_of_getElem? (i := 26) rfl) rfl dX7_feed_93 ?_
          refine j_aload_n X 1 rfl rfl dX7_feed_96 ?_
          refine j_get X (by decide) (wE_7 _ rfl) rfl awF7 0 (by decide) aw_16 rfl (v := .ref (ad 1)) rfl dX7_feed_97 ?_
          refine j_getN X (by decide) (wE_6 _ rfl) rfl awF6 5 (by decide) (List.mem_of_getElem? (i := 26) rfl) rfl (v := .int ((up M4 1 5 (nI N)) 1 5)) rfl dX7_feed_100 ?_
          refine j_eqi (v := (nI N)) (by simp [up]) ?_
          exact j_iret X hr hlocks dX7_feed_103 ⟨(by unfold sp_feed; rw [nI_ti hN (by decide)]; (repeat' split) <;> first | rfl | omega | (exfalso; omega)), (sm_up (sm_tr sm_rf (sm_w hs4 (by intro b k hb; simp only [Bool.or_eq_false_iff, Bool.and_eq_false_iff, beq_eq_false_iff_ne, ne_eq, decide_eq_false_iff_not] at hb ⊢; omega))) rfl)⟩
        · have c_5 : i_4 < N := by
            rcases Nat.lt_or_ge i_4 (N) with g | g
            · exact g
            · exact absurd (show nI (N) ≤ nI i_4 from nI_le g (by omega)) c_5
          refine j_aload_n X 1 rfl rfl dX7_feed_47 ?_
          refine j_get X (by decide) (wE_7 _ rfl) rfl awF7 0 (by decide) aw_16 rfl (v := .ref (ad 1)) rfl dX7_feed_48 ?_
          refine j_getN X (by decide) (wE_6 _ rfl) rfl awF6 3 (by decide) (List.mem_of_getElem? (i := 24) rfl) rfl (v := .ref (ad 23)) rfl dX7_feed_51 ?_
          refine j_aload_n X 1 rfl rfl dX7_feed_54 ?_
          refine j_get X (by decide) (wE_7 _ rfl) rfl awF7 0 (by decide) aw_16 rfl (v := .ref (ad 1)) rfl dX7_feed_55 ?_
          refine j_getN X (by decide) (wE_6 _ rfl) rfl awF6 5 (by decide) (List.mem_of_getElem? (i := 26) rfl) rfl (v := .int (M4 1 5)) rfl dX7_feed_58 ?_
          refine j_eqi (v := 0) ((hs4 1 5 rfl).trans hz.2.2.2.2.2.2.1) ?_
          refine j_iload X 0 rfl dX7_feed_61 ?_
          refine j_iadd X dX7_feed_63 ?_
          refine j_eqi (v := (nI i_4)) (Int32.zero_add _) ?_
          refine j_lload_n X 2 rfl rfl dX7_feed_64 ?_
          refine j_bipush X (v := 8) (by decide) dX7_feed_65 ?_
          refine j_iload X 0 rfl dX7_feed_67 ?_
          refine j_imul X dX7_feed_69 ?_
          refine j_lushr X dX7_feed_70 ?_
          refine j_l2i X dX7_feed_71 ?_
          refine j_sipush X (v := 255) (by decide) dX7_feed_72 ?_
          refine j_iand X dX7_feed_75 ?_
          refine j_iast X (by decide) rfl (show vp_in (nI i_4) 50 from vp_in_nI (by omega) (by decide)) dX7_feed_76 ?_
          refine j_eqM (M1 := (up M4 23 i_4 ((((w.toUInt64 >>> ((8 * (nI i_4)).toInt64.toUInt64 &&& Int64.toUInt64 63)).toInt64).toInt32) &&& 255))) (by rw [nI_clamp (by omega)]) ?_
          refine j_iinc X (v := (nI (i_4 + 1))) 0 [(4, .int (nI (i_4 + 1))), (0, .ref (ad 0)), (1, .long w), (3, .int (nI N))] rfl (show nI i_4 + Int32.ofInt 1 = _ from nI_1 i_4) (by decide) rfl dX7_feed_77 ?_
          refine j_goto X 41 (by decide) dX7_feed_80 ?_
          refine j_lv (lv1 := [(4, .int (nI (i_4 + 1))), (0, .ref (ad 0)), (1, .long w), (3, .int (nI N))]) [0, 1, 2, 3] rfl ?_
          exact ih4 (i_4 + 1) _ (by omega) (by omega) (sm_up hs4 rfl)
    refine j_lv (lv1 := [(4, .int (nI 0)), (0, .ref (ad 0)), (1, .long w), (3, .int (nI N))]) [0, 1, 2, 3] rfl ?_
    exact loop4 (N + 1) 0 _ (by omega) (by omega) sm_rf
  · refine j_if_ne X 17 (by decide) dX7_feed_7 (fun c_6 => False.elim (by revert c_6; decide)) (fun c_6 => ?_)
    refine j_aload_n X 0 rfl rfl dX7_feed_10 ?_
    refine j_ldc X (v := (-1000000001)) aw_108 dX7_feed_11 ?_
    refine j_callVI X (nn := 1) (As := [.int (-1000000001)]) (st := []) (ci := 7) (by decide) (wE_7 _ rfl) rfl aw_117 aw_118 (c_X7_refuse l D y ad M (-1000000001) 1 (by decide) (by decide)) aw_116 aw_119 aw_2 (by decide +kernel) ⟨by decide, by decide⟩ rfl (Nat.le_of_ble_eq_true rfl) ⟨by decide, by decide⟩ dX7_feed_13 ?_
    rintro r_ M1_ ⟨rfl, rfl⟩
    exact j_iret X hr hlocks dX7_feed_16 ⟨(by unfold sp_feed; (repeat' split) <;> first | rfl | omega | (exfalso; omega)), (sm_up sm_rf rfl)⟩
set_option maxRecDepth 100000 in
set_option maxHeartbeats 4000000 in
theorem c_textOf_1 (l : Launch) (D : va_G) (y : wY) (ad : Nat → Nat) (M : Mem) (u : Int32) : MR l D y ad yX6_textOf (Cond.code yX6_textOf cX6_textOf 2 (some (.object "KnivesGround$Text"))) 0 M [.ref (ad 1), .int u] (fun r M' => (2 = r ∧ M = M' ∧ u.toInt = 0) ∨ (7 = r ∧ M = M' ∧ u.toInt ≠ 0)) := by
  refine MR_of (by decide) (Nat.le_of_ble_eq_true rfl) ?_
  intro p e s m args below meth c X hr hlocks
  refine j_lv (lv1 := [(0, .ref (ad 1)), (1, .int u)]) [0, 1] rfl ?_
  refine j_iload_n X 1 rfl rfl dX6_textOf_0 ?_
  refine j_if_ne X 11 (by decide) dX6_textOf_1 (fun c_1 => ?_) (fun c_1 => ?_)
  · have qc_1 := ti_ne (n := 0) (by decide) c_1
    refine j_aload_n X 0 rfl rfl dX6_textOf_11 ?_
    refine j_get X (by decide) (wE_6 _ rfl) rfl awF6 1 (by decide) aw_43 rfl (v := .ref (ad 7)) rfl dX6_textOf_12 ?_
    exact j_aret X hr hlocks dX6_textOf_15 (Or.inr ⟨rfl, rfl, by assumption⟩)
  · have qc_1 := ti_eq (n := 0) (by decide) c_1
    refine j_aload_n X 0 rfl rfl dX6_textOf_4 ?_
    refine j_get X (by decide) (wE_6 _ rfl) rfl awF6 0 (by decide) aw_42 rfl (v := .ref (ad 2)) rfl dX6_textOf_5 ?_
    refine j_goto X 15 (by decide) dX6_textOf_8 ?_
    exact j_aret X hr hlocks dX6_textOf_15 (Or.inl ⟨rfl, rfl, by assumption⟩)
set_option maxRecDepth 100000 in
set_option maxHeartbeats 4000000 in
theorem c_gives0_2 (l : Launch) (D : va_G) (y : wY) (ad : Nat → Nat) (M : Mem) (hs : M 2 5 = 0) (hu : M 2 4 = 0) (a b c0 : Int32) : MI l D y ad yX4_gives (Cond.code yX4_gives cX4_gives 5 (some .int)) 1 M [.ref (ad 2), .int a, .int b, .int c0] (fun r M' => 20 = r ∧ M = M') := by
  refine MI_of (by decide) (Nat.le_of_ble_eq_true rfl) ?_
  intro p e s m args below meth c X hr hlocks
  refine j_lv (lv1 := [(0, .ref (ad 2)), (1, .int a), (2, .int b), (3, .int c0)]) [0, 1, 2, 3] rfl ?_
  refine j_aload_n X 0 rfl rfl dX4_gives_0 ?_
  refine j_get X (by decide) (wE_4 _ rfl) rfl awF4 5 (by decide) aw_73 rfl (v := .int (M 2 5)) rfl dX4_gives_1 ?_
  refine j_eqi (v := 0) hs ?_
  refine j_if_le X 17 (by decide) dX4_gives_4 (fun c_1 => ?_) (fun c_1 => False.elim (by revert c_1; decide))
  refine j_aload_n X 0 rfl rfl dX4_gives_17 ?_
  refine j_get X (by decide) (wE_4 _ rfl) rfl awF4 4 (by decide) aw_72 rfl (v := .int (M 2 4)) rfl dX4_gives_18 ?_
  refine j_eqi (v := 0) hu ?_
  refine j_if_ne X 29 (by decide) dX4_gives_21 (fun c_2 => False.elim (by revert c_2; decide)) (fun c_2 => ?_)
  refine j_bipush X (v := 20) (by decide) dX4_gives_24 ?_
  refine j_goto X 36 (by decide) dX4_gives_26 ?_
  refine j_istore X [(4, .int 20), (0, .ref (ad 2)), (1, .int a), (2, .int b), (3, .int c0)] (by decide) rfl dX4_gives_36 ?_
  refine j_iconst X (v := 0) (by decide) dX4_gives_38 ?_
  refine j_bipush X (v := 99) (by decide) dX4_gives_39 ?_
  refine j_iload X 0 rfl dX4_gives_41 ?_
  refine j_mmin X aw_201 aw_202 aw_203 aw_204 (by decide) (Nat.le_of_ble_eq_true rfl) (by decide) (by decide) dX4_gives_43 ?_
  refine j_eqi (v := 20) (by decide) ?_
  refine j_mmax X aw_205 aw_206 aw_203 aw_207 (by decide) (Nat.le_of_ble_eq_true rfl) (by decide) (by decide) dX4_gives_46 ?_
  refine j_eqi (v := 20) (by decide) ?_
  exact j_iret X hr hlocks dX4_gives_49 ⟨rfl, rfl⟩
set_option maxRecDepth 100000 in
set_option maxHeartbeats 4000000 in
theorem c_gives0_7 (l : Launch) (D : va_G) (y : wY) (ad : Nat → Nat) (M : Mem) (hs : M 7 5 = 0) (hu : M 7 4 = 1) (a b c0 : Int32) : MI l D y ad yX4_gives (Cond.code yX4_gives cX4_gives 5 (some .int)) 1 M [.ref (ad 7), .int a, .int b, .int c0] (fun r M' => clampI (9 - a / 11) = r ∧ M = M') := by
  refine MI_of (by decide) (Nat.le_of_ble_eq_true rfl) ?_
  intro p e s m args below meth c X hr hlocks
  refine j_lv (lv1 := [(0, .ref (ad 7)), (1, .int a), (2, .int b), (3, .int c0)]) [0, 1, 2, 3] rfl ?_
  refine j_aload_n X 0 rfl rfl dX4_gives_0 ?_
  refine j_get X (by decide) (wE_4 _ rfl) rfl awF4 5 (by decide) aw_73 rfl (v := .int (M 7 5)) rfl dX4_gives_1 ?_
  refine j_eqi (v := 0) hs ?_
  refine j_if_le X 17 (by decide) dX4_gives_4 (fun c_1 => ?_) (fun c_1 => False.elim (by revert c_1; decide))
  refine j_aload_n X 0 rfl rfl dX4_gives_17 ?_
  refine j_get X (by decide) (wE_4 _ rfl) rfl awF4 4 (by decide) aw_72 rfl (v := .int (M 7 4)) rfl dX4_gives_18 ?_
  refine j_eqi (v := 1) hu ?_
  refine j_if_ne X 29 (by decide) dX4_gives_21 (fun c_2 => ?_) (fun c_2 => False.elim (by revert c_2; decide))
  refine j_bipush X (v := 9) (by decide) dX4_gives_29 ?_
  refine j_iload_n X 1 rfl rfl dX4_gives_31 ?_
  refine j_bipush X (v := 11) (by decide) dX4_gives_32 ?_
  refine j_idiv X (by decide) dX4_gives_34 ?_
  refine j_isub X dX4_gives_35 ?_
  refine j_istore X [(4, .int (9 - (a / 11))), (0, .ref (ad 7)), (1, .int a), (2, .int b), (3, .int c0)] (by decide) rfl dX4_gives_36 ?_
  refine j_iconst X (v := 0) (by decide) dX4_gives_38 ?_
  refine j_bipush X (v := 99) (by decide) dX4_gives_39 ?_
  refine j_iload X 0 rfl dX4_gives_41 ?_
  refine j_mmin X aw_201 aw_202 aw_203 aw_204 (by decide) (Nat.le_of_ble_eq_true rfl) (by decide) (by decide) dX4_gives_43 ?_
  refine j_mmax X aw_205 aw_206 aw_203 aw_207 (by decide) (Nat.le_of_ble_eq_true rfl) (by decide) (by decide) dX4_gives_46 ?_
  exact j_iret X hr hlocks dX4_gives_49 ⟨by unfold clampI; exact (clamp1 _).symm, rfl⟩
set_option maxRecDepth 100000 in
set_option maxHeartbeats 4000000 in
theorem c0_X7_law (l : Launch) (D : va_G) (y : wY) (ad : Nat → Nat) (M : Mem) (hz : Z0 M) (u a b g : Int32) : MI l D y ad yX7_law (Cond.code yX7_law cX7_law 5 (some .int)) 6 M [.ref (ad 0), .int u, .int a, .int b, .int g] (fun r M' => sp_law u a b g = r ∧ sm (fun b _ => decide (b < 79)) M M') := by
  refine MI_of (by decide) (Nat.le_of_ble_eq_true rfl) ?_
  intro p e s m args below meth c X hr hlocks
  refine j_lv (lv1 := [(0, .ref (ad 0)), (1, .int u), (2, .int a), (3, .int b), (4, .int g)]) [0, 1, 2, 3, 4] rfl ?_
  refine j_iload_n X 1 rfl rfl dX7_law_0 ?_
  refine j_iconst X (v := 0) (by decide) dX7_law_1 ?_
  refine j_iconst X (v := 1) (by decide) dX7_law_2 ?_
  refine j_callSI X (nn := 3) (As := [.int u, .int 0, .int 1]) (st := []) aw_110 (c_X7_isWithin l D y ad M u 0 1 0 1 (by decide) (by decide)) aw_109 aw_111 aw_2 (by decide +kernel) ⟨by decide, by decide⟩ rfl (Nat.le_of_ble_eq_true rfl) ⟨by decide, by decide⟩ dX7_law_3 ?_
  rintro r_ M1_ (⟨rfl, rfl, h_1⟩ | ⟨rfl, rfl, h_1⟩)
  · refine j_if_ne X 16 (by decide) dX7_law_6 (fun c_2 => ?_) (fun c_2 => False.elim (by revert c_2; decide))
    refine j_aload_n X 0 rfl rfl dX7_law_16 ?_
    refine j_get X (by decide) (wE_7 _ rfl) rfl awF7 0 (by decide) aw_16 rfl (v := .ref (ad 1)) rfl dX7_law_17 ?_
    refine j_iload_n X 1 rfl rfl dX7_law_20 ?_
    refine j_callVNR X (nn := 1) (As := [.int u]) (st := []) (ci := 6) (by decide) (wE_6 _ rfl) rfl aw_366 aw_367 (c_textOf_1 l D y ad M u) (List.mem_of_getElem? (i := 24) rfl) aw_368 aw_15 (by decide +kernel) ⟨by decide, by decide⟩ rfl (Nat.le_of_ble_eq_true rfl) ⟨by decide, by decide⟩ dX7_law_21 ?_
    rintro r_ M1_ (⟨rfl, rfl, h_3⟩ | ⟨rfl, rfl, h_3⟩)
    · refine j_iload_n X 2 rfl rfl dX7_law_24 ?_
      refine j_iload_n X 3 rfl rfl dX7_law_25 ?_
      refine j_iload X 4 rfl dX7_law_26 ?_
      refine j_callVNI X (nn := 3) (As := [.int a, .int b, .int g]) (st := []) (ci := 4) (by decide) (wE_4 _ rfl) rfl aw_198 aw_199 (c_gives0_2 l D y ad M hz.2.2.2.2.2.2.2.2.2.2.2.2.2.2.2.2.1 hz.2.2.2.2.2.2.2.2.2.2.2.2.2.2.2.1 a b g) (List.mem_of_getElem? (i := 26) rfl) aw_200 aw_41 (by decide +kernel) ⟨by decide, by decide⟩ rfl (Nat.le_of_ble_eq_true rfl) ⟨by decide, by decide⟩ dX7_law_28 ?_
      rintro r_ M1_ ⟨rfl, rfl⟩
      exact j_iret X hr hlocks dX7_law_31 ⟨(by unfold sp_law; (repeat' split) <;> first | rfl | omega | (exfalso; omega)), sm_rf⟩
    · refine j_iload_n X 2 rfl rfl dX7_law_24 ?_
      refine j_iload_n X 3 rfl rfl dX7_law_25 ?_
      refine j_iload X 4 rfl dX7_law_26 ?_
      refine j_callVNI X (nn := 3) (As := [.int a, .int b, .int g]) (st := []) (ci := 4) (by decide) (wE_4 _ rfl) rfl aw_198 aw_199 (c_gives0_7 l D y ad M hz.2.2.2.2.2.2.2.2.2.2.2.2.2.2.2.2.2.2.1 hz.2.2.2.2.2.2.2.2.2.2.2.2.2.2.2.2.2.1 a b g) (List.mem_of_getElem? (i := 26) rfl) aw_200 aw_41 (by decide +kernel) ⟨by decide, by decide⟩ rfl (Nat.le_of_ble_eq_true rfl) ⟨by decide, by decide⟩ dX7_law_28 ?_
      rintro r_ M1_ ⟨rfl, rfl⟩
      exact j_iret X hr hlocks dX7_law_31 ⟨(by unfold sp_law clampI; rw [if_pos (by omega), if_neg (by omega)]), sm_rf⟩
  · refine j_if_ne X 16 (by decide) dX7_law_6 (fun c_4 => False.elim (by revert c_4; decide)) (fun c_4 => ?_)
    refine j_aload_n X 0 rfl rfl dX7_law_9 ?_
    refine j_ldc X (v := (-1000000001)) aw_108 dX7_law_10 ?_
    refine j_callVI X (nn := 1) (As := [.int (-1000000001)]) (st := []) (ci := 7) (by decide) (wE_7 _ rfl) rfl aw_117 aw_118 (c_X7_refuse l D y ad M (-1000000001) 1 (by decide) (by decide)) aw_116 aw_119 aw_2 (by decide +kernel) ⟨by decide, by decide⟩ rfl (Nat.le_of_ble_eq_true rfl) ⟨by decide, by decide⟩ dX7_law_12 ?_
    rintro r_ M1_ ⟨rfl, rfl⟩
    exact j_iret X hr hlocks dX7_law_15 ⟨(by unfold sp_law; (repeat' split) <;> first | rfl | omega | (exfalso; omega)), (sm_up sm_rf rfl)⟩
set_option maxRecDepth 100000 in
set_option maxHeartbeats 4000000 in
theorem c_next0 (l : Launch) (D : va_G) (y : wY) (ad : Nat → Nat) (M : Mem) (hm : M 60 2 = 0) (hp : M 60 3 = 0) : MI l D y ad yX2_next (Cond.code yX2_next cX2_next 1 (some .int)) 0 M [.ref (ad 60)] (fun r M' => (-1) = r ∧ M = M') := by
  refine MI_of (by decide) (Nat.le_of_ble_eq_true rfl) ?_
  intro p e s m args below meth c X hr hlocks
  refine j_lv (lv1 := [(0, .ref (ad 60))]) [0] rfl ?_
  refine j_aload_n X 0 rfl rfl dX2_next_0 ?_
  refine j_get X (by decide) (wE_2 _ rfl) rfl awF2 3 (by decide) aw_323 rfl (v := .int (M 60 3)) rfl dX2_next_1 ?_
  refine j_eqi (v := 0) hp ?_
  refine j_aload_n X 0 rfl rfl dX2_next_4 ?_
  refine j_get X (by decide) (wE_2 _ rfl) rfl awF2 2 (by decide) aw_318 rfl (v := .int (M 60 2)) rfl dX2_next_5 ?_
  refine j_eqi (v := 0) hm ?_
  refine j_icmp_ge X 23 (by decide) dX2_next_8 (fun c_1 => ?_) (fun c_1 => False.elim (by revert c_1; decide))
  refine j_iconst X (v := (-1)) (by decide) dX2_next_23 ?_
  exact j_iret X hr hlocks dX2_next_24 ⟨rfl, rfl⟩
set_option maxRecDepth 100000 in
set_option maxHeartbeats 4000000 in
theorem c_isDigit0 (l : Launch) (D : va_G) (y : wY) (ad : Nat → Nat) (M : Mem)  : MI l D y ad yX2_isDigit (Cond.code yX2_isDigit cX2_isDigit 1 (some .boolean)) 1 M [.int (-1)] (fun r M' => 0 = r ∧ M = M') := by
  refine MI_of (by decide) (Nat.le_of_ble_eq_true rfl) ?_
  intro p e s m args below meth c X hr hlocks
  refine j_lv (lv1 := [(0, .int (-1))]) [0] rfl ?_
  refine j_iload_n X 0 rfl rfl dX2_isDigit_0 ?_
  refine j_bipush X (v := 48) (by decide) dX2_isDigit_1 ?_
  refine j_bipush X (v := 57) (by decide) dX2_isDigit_3 ?_
  refine j_callSNI X (nn := 3) (As := [.int (-1), .int 48, .int 57]) (st := []) aw_110 (c_X7_isWithin l D y ad M (-1) 48 57 48 57 (by decide) (by decide)) (List.mem_of_getElem? (i := 22) rfl) aw_111 aw_2 (by decide +kernel) ⟨by decide, by decide⟩ rfl (Nat.le_of_ble_eq_true rfl) ⟨by decide, by decide⟩ dX2_isDigit_5 ?_
  rintro r_ M1_ (⟨rfl, rfl, h_1⟩ | ⟨rfl, rfl, h_1⟩)
  · exact absurd h_1 (by decide)
  · exact j_zret X hr hlocks (Or.inl rfl) dX2_isDigit_8 ⟨rfl, rfl⟩
set_option maxRecDepth 100000 in
set_option maxHeartbeats 4000000 in
theorem c_nameOf0 (l : Launch) (D : va_G) (y : wY) (ad : Nat → Nat) (M : Mem)  : MI l D y ad yX2_nameOf (Cond.code yX2_nameOf cX2_nameOf 2 (some .int)) 0 M [.ref (ad 60), .int (-1)] (fun r M' => (-1) = r ∧ M = M') := by
  refine MI_of (by decide) (Nat.le_of_ble_eq_true rfl) ?_
  intro p e s m args below meth c X hr hlocks
  refine j_lv (lv1 := [(0, .ref (ad 60)), (1, .int (-1))]) [0, 1] rfl ?_
  refine j_iload_n X 1 rfl rfl dX2_nameOf_0 ?_
  refine j_bipush X (v := 101) (by decide) dX2_nameOf_1 ?_
  refine j_icmp_ne X 8 (by decide) dX2_nameOf_3 (fun c_1 => ?_) (fun c_1 => False.elim (by revert c_1; decide))
  refine j_iload_n X 1 rfl rfl dX2_nameOf_8 ?_
  refine j_bipush X (v := 97) (by decide) dX2_nameOf_9 ?_
  refine j_icmp_ne X 16 (by decide) dX2_nameOf_11 (fun c_2 => ?_) (fun c_2 => False.elim (by revert c_2; decide))
  refine j_iload_n X 1 rfl rfl dX2_nameOf_16 ?_
  refine j_aload_n X 0 rfl rfl dX2_nameOf_17 ?_
  refine j_get X (by decide) (wE_2 _ rfl) rfl awF2 0 (by decide) aw_78 rfl (v := .ref (ad 61)) rfl dX2_nameOf_18 ?_
  refine j_getN X (by decide) (wE_4 _ rfl) rfl awF4 4 (by decide) (List.mem_of_getElem? (i := 0) rfl) rfl (v := .int (M 61 4)) rfl dX2_nameOf_21 ?_
  refine j_if_ne X 32 (by decide) dX2_nameOf_24 (fun c_3 => ?_) (fun c_3 => ?_)
  · have qc_3 := ti_ne (n := 0) (by decide) c_3
    refine j_bipush X (v := 109) (by decide) dX2_nameOf_32 ?_
    refine j_icmp_ne X 41 (by decide) dX2_nameOf_34 (fun c_4 => ?_) (fun c_4 => False.elim (by revert c_4; decide))
    refine j_iconst X (v := (-1)) (by decide) dX2_nameOf_41 ?_
    exact j_iret X hr hlocks dX2_nameOf_42 ⟨rfl, rfl⟩
  · have qc_3 := ti_eq (n := 0) (by decide) c_3
    refine j_bipush X (v := 100) (by decide) dX2_nameOf_27 ?_
    refine j_goto X 34 (by decide) dX2_nameOf_29 ?_
    refine j_icmp_ne X 41 (by decide) dX2_nameOf_34 (fun c_5 => ?_) (fun c_5 => False.elim (by revert c_5; decide))
    refine j_iconst X (v := (-1)) (by decide) dX2_nameOf_41 ?_
    exact j_iret X hr hlocks dX2_nameOf_42 ⟨rfl, rfl⟩
set_option maxRecDepth 100000 in
set_option maxHeartbeats 4000000 in
theorem c_stop0 (l : Launch) (D : va_G) (y : wY) (ad : Nat → Nat) (M : Mem) (hp : M 60 3 = 0) (hf : M 60 4 = (-1)) : MI l D y ad yX2_stop (Cond.code yX2_stop cX2_stop 1 (some .int)) 0 M [.ref (ad 60)] (fun r M' => 0 = r ∧ up M 60 4 0 = M') := by
  refine MI_of (by decide) (Nat.le_of_ble_eq_true rfl) ?_
  intro p e s m args below meth c X hr hlocks
  refine j_lv (lv1 := [(0, .ref (ad 60))]) [0] rfl ?_
  refine j_aload_n X 0 rfl rfl dX2_stop_0 ?_
  refine j_get X (by decide) (wE_2 _ rfl) rfl awF2 4 (by decide) aw_324 rfl (v := .int (M 60 4)) rfl dX2_stop_1 ?_
  refine j_eqi (v := (-1)) hf ?_
  refine j_if_ge X 15 (by decide) dX2_stop_4 (fun c_1 => False.elim (by revert c_1; decide)) (fun c_1 => ?_)
  refine j_aload_n X 0 rfl rfl dX2_stop_7 ?_
  refine j_aload_n X 0 rfl rfl dX2_stop_8 ?_
  refine j_get X (by decide) (wE_2 _ rfl) rfl awF2 3 (by decide) aw_323 rfl (v := .int (M 60 3)) rfl dX2_stop_9 ?_
  refine j_eqi (v := 0) hp ?_
  refine j_put X (up M 60 4 0) up_o (by decide) (wE_2 _ rfl) rfl awF2 4 (by decide) (wP_2_4 _ _ rfl) tyX2 tyX2_ok nmX2 rfl (ty := .int) (by decide +kernel) rfl rfl (Nat.le_of_ble_eq_true rfl) aw_324 rfl dX2_stop_12 ?_
  refine j_iconst X (v := 0) (by decide) dX2_stop_15 ?_
  exact j_iret X hr hlocks dX2_stop_16 ⟨rfl, rfl⟩
set_option maxRecDepth 100000 in
set_option maxHeartbeats 4000000 in
theorem c_readInnermost0 (l : Launch) (D : va_G) (y : wY) (ad : Nat → Nat) (M : Mem) (hm : M 60 2 = 0) (hp : M 60 3 = 0) (hf : M 60 4 = (-1)) : MI l D y ad yX2_readInnermost (Cond.code yX2_readInnermost cX2_readInnermost 3 (some .int)) 2 M [.ref (ad 60), .int 0] (fun r M' => 0 = r ∧ up M 60 4 0 = M') := by
  refine MI_of (by decide) (Nat.le_of_ble_eq_true rfl) ?_
  intro p e s m args below meth c X hr hlocks
  refine j_lv (lv1 := [(0, .ref (ad 60)), (1, .int 0)]) [0, 1] rfl ?_
  refine j_aload_n X 0 rfl rfl dX2_readInnermost_0 ?_
  refine j_callVI X (nn := 0) (As := []) (st := []) (ci := 2) (by decide) (wE_2 _ rfl) rfl aw_333 aw_334 (c_next0 l D y ad M hm hp) aw_332 aw_335 aw_24 (by decide +kernel) ⟨by decide, by decide⟩ rfl (Nat.le_of_ble_eq_true rfl) ⟨by decide, by decide⟩ dX2_readInnermost_1 ?_
  rintro r_ M1_ ⟨rfl, rfl⟩
  refine j_istore_n X [(2, .int (-1)), (0, .ref (ad 60)), (1, .int 0)] rfl (by decide) rfl dX2_readInnermost_4 ?_
  refine j_iload_n X 0 rfl rfl dX2_readInnermost_5 ?_
  refine j_callSI X (nn := 1) (As := [.int (-1)]) (st := []) aw_349 (c_isDigit0 l D y ad M) aw_348 aw_350 aw_24 (by decide +kernel) ⟨by decide, by decide⟩ rfl (Nat.le_of_ble_eq_true rfl) ⟨by decide, by decide⟩ dX2_readInnermost_6 ?_
  rintro r_ M1_ ⟨rfl, rfl⟩
  refine j_if_eq X 17 (by decide) dX2_readInnermost_9 (fun c_1 => ?_) (fun c_1 => False.elim (by revert c_1; decide))
  refine j_aload_n X 1 rfl rfl dX2_readInnermost_17 ?_
  refine j_iload_n X 0 rfl rfl dX2_readInnermost_18 ?_
  refine j_callVI X (nn := 1) (As := [.int (-1)]) (st := []) (ci := 2) (by decide) (wE_2 _ rfl) rfl aw_356 aw_357 (c_nameOf0 l D y ad M) aw_355 aw_358 aw_24 (by decide +kernel) ⟨by decide, by decide⟩ rfl (Nat.le_of_ble_eq_true rfl) ⟨by decide, by decide⟩ dX2_readInnermost_19 ?_
  rintro r_ M1_ ⟨rfl, rfl⟩
  refine j_if_lt X 51 (by decide) dX2_readInnermost_22 (fun c_2 => ?_) (fun c_2 => False.elim (by revert c_2; decide))
  refine j_iload_n X 0 rfl rfl dX2_readInnermost_51 ?_
  refine j_bipush X (v := 33) (by decide) dX2_readInnermost_52 ?_
  refine j_icmp_eq X 63 (by decide) dX2_readInnermost_54 (fun c_3 => False.elim (by revert c_3; decide)) (fun c_3 => ?_)
  refine j_iload_n X 0 rfl rfl dX2_readInnermost_57 ?_
  refine j_bipush X (v := 40) (by decide) dX2_readInnermost_58 ?_
  refine j_icmp_ne X 102 (by decide) dX2_readInnermost_60 (fun c_4 => ?_) (fun c_4 => False.elim (by revert c_4; decide))
  refine j_aload_n X 1 rfl rfl dX2_readInnermost_102 ?_
  refine j_callVI X (nn := 0) (As := []) (st := []) (ci := 2) (by decide) (wE_2 _ rfl) rfl aw_344 aw_345 (c_stop0 l D y ad M hp hf) aw_343 aw_346 aw_24 (by decide +kernel) ⟨by decide, by decide⟩ rfl (Nat.le_of_ble_eq_true rfl) ⟨by decide, by decide⟩ dX2_readInnermost_103 ?_
  rintro r_ M1_ ⟨rfl, rfl⟩
  exact j_iret X hr hlocks dX2_readInnermost_106 ⟨rfl, rfl⟩
set_option maxRecDepth 100000 in
set_option maxHeartbeats 4000000 in
theorem c_readLevel0_5 (l : Launch) (D : va_G) (y : wY) (ad : Nat → Nat) (M : Mem) (hm : M 60 2 = 0) (hp : M 60 3 = 0) (hf : M 60 4 = (-1)) : MI l D y ad yX2_readLevel (Cond.code yX2_readLevel cX2_readLevel 8 (some .int)) 3 M [.ref (ad 60), .int 5, .int 0] (fun r M' => 0 = r ∧ up M 60 4 0 = M') := by
  refine MI_of (by decide) (Nat.le_of_ble_eq_true rfl) ?_
  intro p e s m args below meth c X hr hlocks
  refine j_lv (lv1 := [(0, .ref (ad 60)), (1, .int 5), (2, .int 0)]) [0, 1, 2] rfl ?_
  refine j_iload_n X 1 rfl rfl dX2_readLevel_0 ?_
  refine j_iconst X (v := 5) (by decide) dX2_readLevel_1 ?_
  refine j_icmp_lt X 11 (by decide) dX2_readLevel_2 (fun c_1 => False.elim (by revert c_1; decide)) (fun c_1 => ?_)
  refine j_aload_n X 0 rfl rfl dX2_readLevel_5 ?_
  refine j_iload_n X 2 rfl rfl dX2_readLevel_6 ?_
  refine j_callVI X (nn := 1) (As := [.int 0]) (st := []) (ci := 2) (by decide) (wE_2 _ rfl) rfl aw_330 aw_331 (c_readInnermost0 l D y ad M hm hp hf) aw_329 aw_347 aw_24 (by decide +kernel) ⟨by decide, by decide⟩ rfl (Nat.le_of_ble_eq_true rfl) ⟨by decide, by decide⟩ dX2_readLevel_7 ?_
  rintro r_ M1_ ⟨rfl, rfl⟩
  exact j_iret X hr hlocks dX2_readLevel_10 ⟨rfl, rfl⟩
set_option maxRecDepth 100000 in
set_option maxHeartbeats 4000000 in
theorem c_readLevel0_4 (l : Launch) (D : va_G) (y : wY) (ad : Nat → Nat) (M : Mem) (hm : M 60 2 = 0) (hp : M 60 3 = 0) (hf : M 60 4 = (-1)) : MI l D y ad yX2_readLevel (Cond.code yX2_readLevel cX2_readLevel 8 (some .int)) 4 M [.ref (ad 60), .int 4, .int 0] (fun r M' => 0 = r ∧ up M 60 4 0 = M') := by
  refine MI_of (by decide) (Nat.le_of_ble_eq_true rfl) ?_
  intro p e s m args below meth c X hr hlocks
  refine j_lv (lv1 := [(0, .ref (ad 60)), (1, .int 4), (2, .int 0)]) [0, 1, 2] rfl ?_
  refine j_iload_n X 1 rfl rfl dX2_readLevel_0 ?_
  refine j_iconst X (v := 5) (by decide) dX2_readLevel_1 ?_
  refine j_icmp_lt X 11 (by decide) dX2_readLevel_2 (fun c_1 => ?_) (fun c_1 => False.elim (by revert c_1; decide))
  refine j_aload_n X 0 rfl rfl dX2_readLevel_11 ?_
  refine j_iload_n X 1 rfl rfl dX2_readLevel_12 ?_
  refine j_iconst X (v := 1) (by decide) dX2_readLevel_13 ?_
  refine j_iadd X dX2_readLevel_14 ?_
  refine j_eqi (v := 5) (by decide) ?_
  refine j_iload_n X 2 rfl rfl dX2_readLevel_15 ?_
  refine j_callVI X (nn := 2) (As := [.int 5, .int 0]) (st := []) (ci := 2) (by decide) (wE_2 _ rfl) rfl aw_326 aw_327 (c_readLevel0_5 l D y ad M hm hp hf) aw_325 aw_328 aw_24 (by decide +kernel) ⟨by decide, by decide⟩ rfl (Nat.le_of_ble_eq_true rfl) ⟨by decide, by decide⟩ dX2_readLevel_16 ?_
  rintro r_ M1_ ⟨rfl, rfl⟩
  refine j_istore_n X [(3, .int 0), (0, .ref (ad 60)), (1, .int 4), (2, .int 0)] rfl (by decide) rfl dX2_readLevel_19 ?_
  refine j_iload_n X 2 rfl rfl dX2_readLevel_20 ?_
  refine j_iconst X (v := 2) (by decide) dX2_readLevel_21 ?_
  refine j_icmp_ne X 29 (by decide) dX2_readLevel_22 (fun c_2 => ?_) (fun c_2 => False.elim (by revert c_2; decide))
  refine j_bipush X (v := 50) (by decide) dX2_readLevel_29 ?_
  refine j_istore X [(4, .int 50), (3, .int 0), (0, .ref (ad 60)), (1, .int 4), (2, .int 0)] (by decide) rfl dX2_readLevel_31 ?_
  refine j_iconst X (v := 0) (by decide) dX2_readLevel_33 ?_
  refine j_istore X [(5, .int 0), (4, .int 50), (3, .int 0), (0, .ref (ad 60)), (1, .int 4), (2, .int 0)] (by decide) rfl dX2_readLevel_34 ?_
  refine j_iload X 0 rfl dX2_readLevel_36 ?_
  refine j_iload X 1 rfl dX2_readLevel_38 ?_
  refine j_icmp_ge X 106 (by decide) dX2_readLevel_40 (fun c_3 => False.elim (by revert c_3; decide)) (fun c_3 => ?_)
  refine j_aload_n X 3 rfl rfl dX2_readLevel_43 ?_
  refine j_get X (by decide) (wE_2 _ rfl) rfl awF2 4 (by decide) aw_324 rfl (v := .int ((up M 60 4 0) 60 4)) rfl dX2_readLevel_44 ?_
  refine j_eqi (v := 0) (by simp [up]) ?_
  refine j_if_ge X 106 (by decide) dX2_readLevel_47 (fun c_4 => ?_) (fun c_4 => False.elim (by revert c_4; decide))
  refine j_iload_n X 2 rfl rfl dX2_readLevel_106 ?_
  exact j_iret X hr hlocks dX2_readLevel_107 ⟨rfl, rfl⟩
set_option maxRecDepth 100000 in
set_option maxHeartbeats 4000000 in
theorem c_readLevel0_3 (l : Launch) (D : va_G) (y : wY) (ad : Nat → Nat) (M : Mem) (hm : M 60 2 = 0) (hp : M 60 3 = 0) (hf : M 60 4 = (-1)) : MI l D y ad yX2_readLevel (Cond.code yX2_readLevel cX2_readLevel 8 (some .int)) 5 M [.ref (ad 60), .int 3, .int 0] (fun r M' => 0 = r ∧ up M 60 4 0 = M') := by
  refine MI_of (by decide) (Nat.le_of_ble_eq_true rfl) ?_
  intro p e s m args below meth c X hr hlocks
  refine j_lv (lv1 := [(0, .ref (ad 60)), (1, .int 3), (2, .int 0)]) [0, 1, 2] rfl ?_
  refine j_iload_n X 1 rfl rfl dX2_readLevel_0 ?_
  refine j_iconst X (v := 5) (by decide) dX2_readLevel_1 ?_
  refine j_icmp_lt X 11 (by decide) dX2_readLevel_2 (fun c_1 => ?_) (fun c_1 => False.elim (by revert c_1; decide))
  refine j_aload_n X 0 rfl rfl dX2_readLevel_11 ?_
  refine j_iload_n X 1 rfl rfl dX2_readLevel_12 ?_
  refine j_iconst X (v := 1) (by decide) dX2_readLevel_13 ?_
  refine j_iadd X dX2_readLevel_14 ?_
  refine j_eqi (v := 4) (by decide) ?_
  refine j_iload_n X 2 rfl rfl dX2_readLevel_15 ?_
  refine j_callVI X (nn := 2) (As := [.int 4, .int 0]) (st := []) (ci := 2) (by decide) (wE_2 _ rfl) rfl aw_326 aw_327 (c_readLevel0_4 l D y ad M hm hp hf) aw_325 aw_328 aw_24 (by decide +kernel) ⟨by decide, by decide⟩ rfl (Nat.le_of_ble_eq_true rfl) ⟨by decide, by decide⟩ dX2_readLevel_16 ?_
  rintro r_ M1_ ⟨rfl, rfl⟩
  refine j_istore_n X [(3, .int 0), (0, .ref (ad 60)), (1, .int 3), (2, .int 0)] rfl (by decide) rfl dX2_readLevel_19 ?_
  refine j_iload_n X 2 rfl rfl dX2_readLevel_20 ?_
  refine j_iconst X (v := 2) (by decide) dX2_readLevel_21 ?_
  refine j_icmp_ne X 29 (by decide) dX2_readLevel_22 (fun c_2 => ?_) (fun c_2 => False.elim (by revert c_2; decide))
  refine j_bipush X (v := 50) (by decide) dX2_readLevel_29 ?_
  refine j_istore X [(4, .int 50), (3, .int 0), (0, .ref (ad 60)), (1, .int 3), (2, .int 0)] (by decide) rfl dX2_readLevel_31 ?_
  refine j_iconst X (v := 0) (by decide) dX2_readLevel_33 ?_
  refine j_istore X [(5, .int 0), (4, .int 50), (3, .int 0), (0, .ref (ad 60)), (1, .int 3), (2, .int 0)] (by decide) rfl dX2_readLevel_34 ?_
  refine j_iload X 0 rfl dX2_readLevel_36 ?_
  refine j_iload X 1 rfl dX2_readLevel_38 ?_
  refine j_icmp_ge X 106 (by decide) dX2_readLevel_40 (fun c_3 => False.elim (by revert c_3; decide)) (fun c_3 => ?_)
  refine j_aload_n X 3 rfl rfl dX2_readLevel_43 ?_
  refine j_get X (by decide) (wE_2 _ rfl) rfl awF2 4 (by decide) aw_324 rfl (v := .int ((up M 60 4 0) 60 4)) rfl dX2_readLevel_44 ?_
  refine j_eqi (v := 0) (by simp [up]) ?_
  refine j_if_ge X 106 (by decide) dX2_readLevel_47 (fun c_4 => ?_) (fun c_4 => False.elim (by revert c_4; decide))
  refine j_iload_n X 2 rfl rfl dX2_readLevel_106 ?_
  exact j_iret X hr hlocks dX2_readLevel_107 ⟨rfl, rfl⟩
set_option maxRecDepth 100000 in
set_option maxHeartbeats 4000000 in
theorem c_readLevel0_2 (l : Launch) (D : va_G) (y : wY) (ad : Nat → Nat) (M : Mem) (hm : M 60 2 = 0) (hp : M 60 3 = 0) (hf : M 60 4 = (-1)) : MI l D y ad yX2_readLevel (Cond.code yX2_readLevel cX2_readLevel 8 (some .int)) 6 M [.ref (ad 60), .int 2, .int 0] (fun r M' => 0 = r ∧ up M 60 4 0 = M') := by
  refine MI_of (by decide) (Nat.le_of_ble_eq_true rfl) ?_
  intro p e s m args below meth c X hr hlocks
  refine j_lv (lv1 := [(0, .ref (ad 60)), (1, .int 2), (2, .int 0)]) [0, 1, 2] rfl ?_
  refine j_iload_n X 1 rfl rfl dX2_readLevel_0 ?_
  refine j_iconst X (v := 5) (by decide) dX2_readLevel_1 ?_
  refine j_icmp_lt X 11 (by decide) dX2_readLevel_2 (fun c_1 => ?_) (fun c_1 => False.elim (by revert c_1; decide))
  refine j_aload_n X 0 rfl rfl dX2_readLevel_11 ?_
  refine j_iload_n X 1 rfl rfl dX2_readLevel_12 ?_
  refine j_iconst X (v := 1) (by decide) dX2_readLevel_13 ?_
  refine j_iadd X dX2_readLevel_14 ?_
  refine j_eqi (v := 3) (by decide) ?_
  refine j_iload_n X 2 rfl rfl dX2_readLevel_15 ?_
  refine j_callVI X (nn := 2) (As := [.int 3, .int 0]) (st := []) (ci := 2) (by decide) (wE_2 _ rfl) rfl aw_326 aw_327 (c_readLevel0_3 l D y ad M hm hp hf) aw_325 aw_328 aw_24 (by decide +kernel) ⟨by decide, by decide⟩ rfl (Nat.le_of_ble_eq_true rfl) ⟨by decide, by decide⟩ dX2_readLevel_16 ?_
  rintro r_ M1_ ⟨rfl, rfl⟩
  refine j_istore_n X [(3, .int 0), (0, .ref (ad 60)), (1, .int 2), (2, .int 0)] rfl (by decide) rfl dX2_readLevel_19 ?_
  refine j_iload_n X 2 rfl rfl dX2_readLevel_20 ?_
  refine j_iconst X (v := 2) (by decide) dX2_readLevel_21 ?_
  refine j_icmp_ne X 29 (by decide) dX2_readLevel_22 (fun c_2 => False.elim (by revert c_2; decide)) (fun c_2 => ?_)
  refine j_iconst X (v := 1) (by decide) dX2_readLevel_25 ?_
  refine j_goto X 31 (by decide) dX2_readLevel_26 ?_
  refine j_istore X [(4, .int 1), (3, .int 0), (0, .ref (ad 60)), (1, .int 2), (2, .int 0)] (by decide) rfl dX2_readLevel_31 ?_
  refine j_iconst X (v := 0) (by decide) dX2_readLevel_33 ?_
  refine j_istore X [(5, .int 0), (4, .int 1), (3, .int 0), (0, .ref (ad 60)), (1, .int 2), (2, .int 0)] (by decide) rfl dX2_readLevel_34 ?_
  refine j_iload X 0 rfl dX2_readLevel_36 ?_
  refine j_iload X 1 rfl dX2_readLevel_38 ?_
  refine j_icmp_ge X 106 (by decide) dX2_readLevel_40 (fun c_3 => False.elim (by revert c_3; decide)) (fun c_3 => ?_)
  refine j_aload_n X 3 rfl rfl dX2_readLevel_43 ?_
  refine j_get X (by decide) (wE_2 _ rfl) rfl awF2 4 (by decide) aw_324 rfl (v := .int ((up M 60 4 0) 60 4)) rfl dX2_readLevel_44 ?_
  refine j_eqi (v := 0) (by simp [up]) ?_
  refine j_if_ge X 106 (by decide) dX2_readLevel_47 (fun c_4 => ?_) (fun c_4 => False.elim (by revert c_4; decide))
  refine j_iload_n X 2 rfl rfl dX2_readLevel_106 ?_
  exact j_iret X hr hlocks dX2_readLevel_107 ⟨rfl, rfl⟩
set_option maxRecDepth 100000 in
set_option maxHeartbeats 4000000 in
theorem c_readLevel0_1 (l : Launch) (D : va_G) (y : wY) (ad : Nat → Nat) (M : Mem) (hm : M 60 2 = 0) (hp : M 60 3 = 0) (hf : M 60 4 = (-1)) : MI l D y ad yX2_readLevel (Cond.code yX2_readLevel cX2_readLevel 8 (some .int)) 7 M [.ref (ad 60), .int 1, .int 0] (fun r M' => 0 = r ∧ up M 60 4 0 = M') := by
  refine MI_of (by decide) (Nat.le_of_ble_eq_true rfl) ?_
  intro p e s m args below meth c X hr hlocks
  refine j_lv (lv1 := [(0, .ref (ad 60)), (1, .int 1), (2, .int 0)]) [0, 1, 2] rfl ?_
  refine j_iload_n X 1 rfl rfl dX2_readLevel_0 ?_
  refine j_iconst X (v := 5) (by decide) dX2_readLevel_1 ?_
  refine j_icmp_lt X 11 (by decide) dX2_readLevel_2 (fun c_1 => ?_) (fun c_1 => False.elim (by revert c_1; decide))
  refine j_aload_n X 0 rfl rfl dX2_readLevel_11 ?_
  refine j_iload_n X 1 rfl rfl dX2_readLevel_12 ?_
  refine j_iconst X (v := 1) (by decide) dX2_readLevel_13 ?_
  refine j_iadd X dX2_readLevel_14 ?_
  refine j_eqi (v := 2) (by decide) ?_
  refine j_iload_n X 2 rfl rfl dX2_readLevel_15 ?_
  refine j_callVI X (nn := 2) (As := [.int 2, .int 0]) (st := []) (ci := 2) (by decide) (wE_2 _ rfl) rfl aw_326 aw_327 (c_readLevel0_2 l D y ad M hm hp hf) aw_325 aw_328 aw_24 (by decide +kernel) ⟨by decide, by decide⟩ rfl (Nat.le_of_ble_eq_true rfl) ⟨by decide, by decide⟩ dX2_readLevel_16 ?_
  rintro r_ M1_ ⟨rfl, rfl⟩
  refine j_istore_n X [(3, .int 0), (0, .ref (ad 60)), (1, .int 1), (2, .int 0)] rfl (by decide) rfl dX2_readLevel_19 ?_
  refine j_iload_n X 2 rfl rfl dX2_readLevel_20 ?_
  refine j_iconst X (v := 2) (by decide) dX2_readLevel_21 ?_
  refine j_icmp_ne X 29 (by decide) dX2_readLevel_22 (fun c_2 => ?_) (fun c_2 => False.elim (by revert c_2; decide))
  refine j_bipush X (v := 50) (by decide) dX2_readLevel_29 ?_
  refine j_istore X [(4, .int 50), (3, .int 0), (0, .ref (ad 60)), (1, .int 1), (2, .int 0)] (by decide) rfl dX2_readLevel_31 ?_
  refine j_iconst X (v := 0) (by decide) dX2_readLevel_33 ?_
  refine j_istore X [(5, .int 0), (4, .int 50), (3, .int 0), (0, .ref (ad 60)), (1, .int 1), (2, .int 0)] (by decide) rfl dX2_readLevel_34 ?_
  refine j_iload X 0 rfl dX2_readLevel_36 ?_
  refine j_iload X 1 rfl dX2_readLevel_38 ?_
  refine j_icmp_ge X 106 (by decide) dX2_readLevel_40 (fun c_3 => False.elim (by revert c_3; decide)) (fun c_3 => ?_)
  refine j_aload_n X 3 rfl rfl dX2_readLevel_43 ?_
  refine j_get X (by decide) (wE_2 _ rfl) rfl awF2 4 (by decide) aw_324 rfl (v := .int ((up M 60 4 0) 60 4)) rfl dX2_readLevel_44 ?_
  refine j_eqi (v := 0) (by simp [up]) ?_
  refine j_if_ge X 106 (by decide) dX2_readLevel_47 (fun c_4 => ?_) (fun c_4 => False.elim (by revert c_4; decide))
  refine j_iload_n X 2 rfl rfl dX2_readLevel_106 ?_
  exact j_iret X hr hlocks dX2_readLevel_107 ⟨rfl, rfl⟩
set_option maxRecDepth 100000 in
set_option maxHeartbeats 4000000 in
theorem c_readLevel0_0 (l : Launch) (D : va_G) (y : wY) (ad : Nat → Nat) (M : Mem) (hm : M 60 2 = 0) (hp : M 60 3 = 0) (hf : M 60 4 = (-1)) : MI l D y ad yX2_readLevel (Cond.code yX2_readLevel cX2_readLevel 8 (some .int)) 8 M [.ref (ad 60), .int 0, .int 0] (fun r M' => 0 = r ∧ up M 60 4 0 = M') := by
  refine MI_of (by decide) (Nat.le_of_ble_eq_true rfl) ?_
  intro p e s m args below meth c X hr hlocks
  refine j_lv (lv1 := [(0, .ref (ad 60)), (1, .int 0), (2, .int 0)]) [0, 1, 2] rfl ?_
  refine j_iload_n X 1 rfl rfl dX2_readLevel_0 ?_
  refine j_iconst X (v := 5) (by decide) dX2_readLevel_1 ?_
  refine j_icmp_lt X 11 (by decide) dX2_readLevel_2 (fun c_1 => ?_) (fun c_1 => False.elim (by revert c_1; decide))
  refine j_aload_n X 0 rfl rfl dX2_readLevel_11 ?_
  refine j_iload_n X 1 rfl rfl dX2_readLevel_12 ?_
  refine j_iconst X (v := 1) (by decide) dX2_readLevel_13 ?_
  refine j_iadd X dX2_readLevel_14 ?_
  refine j_eqi (v := 1) (by decide) ?_
  refine j_iload_n X 2 rfl rfl dX2_readLevel_15 ?_
  refine j_callVI X (nn := 2) (As := [.int 1, .int 0]) (st := []) (ci := 2) (by decide) (wE_2 _ rfl) rfl aw_326 aw_327 (c_readLevel0_1 l D y ad M hm hp hf) aw_325 aw_328 aw_24 (by decide +kernel) ⟨by decide, by decide⟩ rfl (Nat.le_of_ble_eq_true rfl) ⟨by decide, by decide⟩ dX2_readLevel_16 ?_
  rintro r_ M1_ ⟨rfl, rfl⟩
  refine j_istore_n X [(3, .int 0), (0, .ref (ad 60)), (1, .int 0), (2, .int 0)] rfl (by decide) rfl dX2_readLevel_19 ?_
  refine j_iload_n X 2 rfl rfl dX2_readLevel_20 ?_
  refine j_iconst X (v := 2) (by decide) dX2_readLevel_21 ?_
  refine j_icmp_ne X 29 (by decide) dX2_readLevel_22 (fun c_2 => ?_) (fun c_2 => False.elim (by revert c_2; decide))
  refine j_bipush X (v := 50) (by decide) dX2_readLevel_29 ?_
  refine j_istore X [(4, .int 50), (3, .int 0), (0, .ref (ad 60)), (1, .int 0), (2, .int 0)] (by decide) rfl dX2_readLevel_31 ?_
  refine j_iconst X (v := 0) (by decide) dX2_readLevel_33 ?_
  refine j_istore X [(5, .int 0), (4, .int 50), (3, .int 0), (0, .ref (ad 60)), (1, .int 0), (2, .int 0)] (by decide) rfl dX2_readLevel_34 ?_
  refine j_iload X 0 rfl dX2_readLevel_36 ?_
  refine j_iload X 1 rfl dX2_readLevel_38 ?_
  refine j_icmp_ge X 106 (by decide) dX2_readLevel_40 (fun c_3 => False.elim (by revert c_3; decide)) (fun c_3 => ?_)
  refine j_aload_n X 3 rfl rfl dX2_readLevel_43 ?_
  refine j_get X (by decide) (wE_2 _ rfl) rfl awF2 4 (by decide) aw_324 rfl (v := .int ((up M 60 4 0) 60 4)) rfl dX2_readLevel_44 ?_
  refine j_eqi (v := 0) (by simp [up]) ?_
  refine j_if_ge X 106 (by decide) dX2_readLevel_47 (fun c_4 => ?_) (fun c_4 => False.elim (by revert c_4; decide))
  refine j_iload_n X 2 rfl rfl dX2_readLevel_106 ?_
  exact j_iret X hr hlocks dX2_readLevel_107 ⟨rfl, rfl⟩
set_option maxRecDepth 100000 in
set_option maxHeartbeats 4000000 in
theorem c_clear_61 (l : Launch) (D : va_G) (y : wY) (ad : Nat → Nat) (M : Mem) (u : Int32) : MV l D y ad yX4_clear (Cond.code yX4_clear cX4_clear 2 none) 0 M [.ref (ad 61), .int u] (fun M' => up (up M 61 4 u) 61 5 0 = M') := by
  refine MV_of (by decide) (Nat.le_of_ble_eq_true rfl) ?_
  intro p e s m args below meth c X hr hlocks
  refine j_lv (lv1 := [(0, .ref (ad 61)), (1, .int u)]) [0, 1] rfl ?_
  refine j_aload_n X 0 rfl rfl dX4_clear_0 ?_
  refine j_iload_n X 1 rfl rfl dX4_clear_1 ?_
  refine j_put X (up M 61 4 u) up_o (by decide) (wE_4 _ rfl) rfl awF4 4 (by decide) (wP_4_4 _ _ rfl) tyX4 tyX4_ok nmX4 rfl (ty := .int) (by decide +kernel) rfl rfl (Nat.le_of_ble_eq_true rfl) aw_72 rfl dX4_clear_2 ?_
  refine j_aload_n X 0 rfl rfl dX4_clear_5 ?_
  refine j_iconst X (v := 0) (by decide) dX4_clear_6 ?_
  refine j_put X (up (up M 61 4 u) 61 5 0) up_o (by decide) (wE_4 _ rfl) rfl awF4 5 (by decide) (wP_4_5 _ _ rfl) tyX4 tyX4_ok nmX4 rfl (ty := .int) (by decide +kernel) rfl rfl (Nat.le_of_ble_eq_true rfl) aw_73 rfl dX4_clear_7 ?_
  exact j_vret X hr hlocks dX4_clear_10 rfl
set_option maxRecDepth 100000 in
set_option maxHeartbeats 4000000 in
theorem c_read0 (l : Launch) (D : va_G) (y : wY) (ad : Nat → Nat) (M : Mem) (u : Int32) : MI l D y ad yX2_read (Cond.code yX2_read cX2_read 4 (some .int)) 9 M [.ref (ad 60), .ref (ad 23), .int 0, .int u] (fun r M' => 0 = r ∧ sm (fun b _ => decide (60 ≤ b) && decide (b ≤ 66)) M M') := by
  refine MI_of (by decide) (Nat.le_of_ble_eq_true rfl) ?_
  intro p e s m args below meth c X hr hlocks
  refine j_lv (lv1 := [(0, .ref (ad 60)), (1, .ref (ad 23)), (2, .int 0), (3, .int u)]) [0, 1, 2, 3] rfl ?_
  refine j_aload_n X 0 rfl rfl dX2_read_0 ?_
  refine j_iload_n X 2 rfl rfl dX2_read_1 ?_
  refine j_bipush X (v := 50) (by decide) dX2_read_2 ?_
  refine j_mmin X aw_317 aw_202 aw_203 aw_204 (by decide) (Nat.le_of_ble_eq_true rfl) (by decide) (by decide) dX2_read_4 ?_
  refine j_eqi (v := 0) (by decide) ?_
  refine j_put X (up M 60 2 0) up_o (by decide) (wE_2 _ rfl) rfl awF2 2 (by decide) (wP_2_2 _ _ rfl) tyX2 tyX2_ok nmX2 rfl (ty := .int) (by decide +kernel) rfl rfl (Nat.le_of_ble_eq_true rfl) aw_318 rfl dX2_read_7 ?_
  refine j_aload_n X 1 rfl rfl dX2_read_10 ?_
  refine j_iconst X (v := 0) (by decide) dX2_read_11 ?_
  refine j_aload_n X 0 rfl rfl dX2_read_12 ?_
  refine j_get X (by decide) (wE_2 _ rfl) rfl awF2 1 (by decide) aw_79 rfl (v := .ref (ad 66)) rfl dX2_read_13 ?_
  refine j_iconst X (v := 0) (by decide) dX2_read_16 ?_
  refine j_aload_n X 0 rfl rfl dX2_read_17 ?_
  refine j_get X (by decide) (wE_2 _ rfl) rfl awF2 2 (by decide) aw_318 rfl (v := .int ((up M 60 2 0) 60 2)) rfl dX2_read_18 ?_
  refine j_eqi (v := 0) (by simp [up]) ?_
  refine j_copy X (i := 23) (j := 66) aw_319 aw_320 aw_321 aw_322 (by decide) (by decide) rfl rfl (by decide) (by decide) (by decide) (by decide) (by decide) (by decide) (by decide +kernel) dX2_read_21 ?_
  refine j_eqM (M1 := (up M 60 2 0)) copy0 ?_
  refine j_aload_n X 0 rfl rfl dX2_read_24 ?_
  refine j_iconst X (v := 0) (by decide) dX2_read_25 ?_
  refine j_put X (up (up M 60 2 0) 60 3 0) up_o (by decide) (wE_2 _ rfl) rfl awF2 3 (by decide) (wP_2_3 _ _ rfl) tyX2 tyX2_ok nmX2 rfl (ty := .int) (by decide +kernel) rfl rfl (Nat.le_of_ble_eq_true rfl) aw_323 rfl dX2_read_26 ?_
  refine j_aload_n X 0 rfl rfl dX2_read_29 ?_
  refine j_iconst X (v := (-1)) (by decide) dX2_read_30 ?_
  refine j_put X (up (up (up M 60 2 0) 60 3 0) 60 4 (-1)) up_o (by decide) (wE_2 _ rfl) rfl awF2 4 (by decide) (wP_2_4 _ _ rfl) tyX2 tyX2_ok nmX2 rfl (ty := .int) (by decide +kernel) rfl rfl (Nat.le_of_ble_eq_true rfl) aw_324 rfl dX2_read_31 ?_
  refine j_aload_n X 0 rfl rfl dX2_read_34 ?_
  refine j_get X (by decide) (wE_2 _ rfl) rfl awF2 0 (by decide) aw_78 rfl (v := .ref (ad 61)) rfl dX2_read_35 ?_
  refine j_iload_n X 3 rfl rfl dX2_read_38 ?_
  refine j_callVNV X (nn := 1) (As := [.int u]) (st := []) (ci := 4) (by decide) (wE_4 _ rfl) rfl aw_69 aw_70 (c_clear_61 l D y ad (up (up (up M 60 2 0) 60 3 0) 60 4 (-1)) u) (List.mem_of_getElem? (i := 21) rfl) aw_71 aw_41 (by decide +kernel) ⟨by decide, by decide⟩ rfl (Nat.le_of_ble_eq_true rfl) ⟨by decide, by decide⟩ dX2_read_39 ?_
  rintro M1_ rfl
  refine j_aload_n X 0 rfl rfl dX2_read_42 ?_
  refine j_iconst X (v := 0) (by decide) dX2_read_43 ?_
  refine j_iconst X (v := 0) (by decide) dX2_read_44 ?_
  refine j_callVI X (nn := 2) (As := [.int 0, .int 0]) (st := []) (ci := 2) (by decide) (wE_2 _ rfl) rfl aw_326 aw_327 (c_readLevel0_0 l D y ad (up (up (up (up (up M 60 2 0) 60 3 0) 60 4 (-1)) 61 4 u) 61 5 0) (by simp [up]) (by simp [up]) (by simp [up])) aw_325 aw_328 aw_24 (by decide +kernel) ⟨by decide, by decide⟩ rfl (Nat.le_of_ble_eq_true rfl) ⟨by decide, by decide⟩ dX2_read_45 ?_
  rintro r_ M1_ ⟨rfl, rfl⟩
  refine j_pop X rfl dX2_read_48 ?_
  refine j_aload_n X 0 rfl rfl dX2_read_49 ?_
  refine j_get X (by decide) (wE_2 _ rfl) rfl awF2 4 (by decide) aw_324 rfl (v := .int ((up (up (up (up (up (up M 60 2 0) 60 3 0) 60 4 (-1)) 61 4 u) 61 5 0) 60 4 0) 60 4)) rfl dX2_read_50 ?_
  refine j_eqi (v := 0) (by simp [up]) ?_
  refine j_if_ge X 75 (by decide) dX2_read_53 (fun c_1 => ?_) (fun c_1 => False.elim (by revert c_1; decide))
  refine j_aload_n X 0 rfl rfl dX2_read_75 ?_
  refine j_get X (by decide) (wE_2 _ rfl) rfl awF2 4 (by decide) aw_324 rfl (v := .int ((up (up (up (up (up (up M 60 2 0) 60 3 0) 60 4 (-1)) 61 4 u) 61 5 0) 60 4 0) 60 4)) rfl dX2_read_76 ?_
  refine j_eqi (v := 0) (by simp [up]) ?_
  exact j_iret X hr hlocks dX2_read_79 ⟨rfl, (sm_up (sm_up (sm_up (sm_up (sm_up (sm_up sm_rf rfl) rfl) rfl) rfl) rfl) rfl)⟩
set_option maxRecDepth 100000 in
set_option maxHeartbeats 4000000 in
theorem c0_X7_text (l : Launch) (D : va_G) (y : wY) (ad : Nat → Nat) (M : Mem) (hz : Z0 M) (u : Int32) : MI l D y ad yX7_text (Cond.code yX7_text cX7_text 3 (some .int)) 10 M [.ref (ad 0), .int u] (fun r M' => sp_text u = r ∧ sm (fun b _ => decide (b < 79)) M M') := by
  refine MI_of (by decide) (Nat.le_of_ble_eq_true rfl) ?_
  intro p e s m args below meth c X hr hlocks
  refine j_lv (lv1 := [(0, .ref (ad 0)), (1, .int u)]) [0, 1] rfl ?_
  refine j_iload_n X 1 rfl rfl dX7_text_0 ?_
  refine j_iconst X (v := 0) (by decide) dX7_text_1 ?_
  refine j_iconst X (v := 1) (by decide) dX7_text_2 ?_
  refine j_callSI X (nn := 3) (As := [.int u, .int 0, .int 1]) (st := []) aw_110 (c_X7_isWithin l D y ad M u 0 1 0 1 (by decide) (by decide)) aw_109 aw_111 aw_2 (by decide +kernel) ⟨by decide, by decide⟩ rfl (Nat.le_of_ble_eq_true rfl) ⟨by decide, by decide⟩ dX7_text_3 ?_
  rintro r_ M1_ (⟨rfl, rfl, h_1⟩ | ⟨rfl, rfl, h_1⟩)
  · refine j_if_ne X 16 (by decide) dX7_text_6 (fun c_2 => ?_) (fun c_2 => False.elim (by revert c_2; decide))
    refine j_aload_n X 0 rfl rfl dX7_text_16 ?_
    refine j_get X (by decide) (wE_7 _ rfl) rfl awF7 3 (by decide) aw_25 rfl (v := .ref (ad 60)) rfl dX7_text_17 ?_
    refine j_aload_n X 0 rfl rfl dX7_text_20 ?_
    refine j_get X (by decide) (wE_7 _ rfl) rfl awF7 0 (by decide) aw_16 rfl (v := .ref (ad 1)) rfl dX7_text_21 ?_
    refine j_getN X (by decide) (wE_6 _ rfl) rfl awF6 3 (by decide) (List.mem_of_getElem? (i := 24) rfl) rfl (v := .ref (ad 23)) rfl dX7_text_24 ?_
    refine j_aload_n X 0 rfl rfl dX7_text_27 ?_
    refine j_get X (by decide) (wE_7 _ rfl) rfl awF7 0 (by decide) aw_16 rfl (v := .ref (ad 1)) rfl dX7_text_28 ?_
    refine j_getN X (by decide) (wE_6 _ rfl) rfl awF6 5 (by decide) (List.mem_of_getElem? (i := 26) rfl) rfl (v := .int (M 1 5)) rfl dX7_text_31 ?_
    refine j_eqi (v := 0) hz.2.2.2.2.2.2.1 ?_
    refine j_iload_n X 1 rfl rfl dX7_text_34 ?_
    refine j_callVNI X (nn := 3) (As := [.ref (ad 23), .int 0, .int u]) (st := []) (ci := 2) (by decide) (wE_2 _ rfl) rfl aw_314 aw_315 (c_read0 l D y ad M u) (List.mem_of_getElem? (i := 20) rfl) aw_316 aw_24 (by decide +kernel) ⟨by decide, by decide⟩ rfl (Nat.le_of_ble_eq_true rfl) ⟨by decide, by decide⟩ dX7_text_35 ?_
    rintro r_ M_4 ⟨rfl, s_3⟩
    refine j_istore_n X [(2, .int 0), (0, .ref (ad 0)), (1, .int u)] rfl (by decide) rfl dX7_text_38 ?_
    refine j_aload_n X 1 rfl rfl dX7_text_39 ?_
    refine j_get X (by decide) (wE_7 _ rfl) rfl awF7 0 (by decide) aw_16 rfl (v := .ref (ad 1)) rfl dX7_text_40 ?_
    refine j_iconst X (v := 0) (by decide) dX7_text_43 ?_
    refine j_putN X (up M_4 1 5 0) up_o (by decide) (wE_6 _ rfl) rfl awF6 5 (by decide) (wP_6_5 _ _ rfl) tyX6 tyX6_ok nmX6 rfl (ty := .int) (by decide +kernel) rfl rfl (Nat.le_of_ble_eq_true rfl) (List.mem_of_getElem? (i := 26) rfl) rfl dX7_text_44 ?_
    refine j_iload_n X 0 rfl rfl dX7_text_47 ?_
    refine j_if_lt X 56 (by decide) dX7_text_48 (fun c_5 => False.elim (by revert c_5; decide)) (fun c_5 => ?_)
    refine j_bipush X (v := (-10)) (by decide) dX7_text_51 ?_
    refine j_iload_n X 0 rfl rfl dX7_text_53 ?_
    refine j_isub X dX7_text_54 ?_
    refine j_eqi (v := (-10)) (by decide) ?_
    exact j_iret X hr hlocks dX7_text_55 ⟨(by unfold sp_text; (repeat' split) <;> first | rfl | omega | (exfalso; omega)), (sm_up (sm_tr sm_rf (sm_w s_3 (by intro b k hb; simp only [Bool.or_eq_false_iff, Bool.and_eq_false_iff, beq_eq_false_iff_ne, ne_eq, decide_eq_false_iff_not] at hb ⊢; omega))) rfl)⟩
  · refine j_if_ne X 16 (by decide) dX7_text_6 (fun c_6 => False.elim (by revert c_6; decide)) (fun c_6 => ?_)
    refine j_aload_n X 0 rfl rfl dX7_text_9 ?_
    refine j_ldc X (v := (-1000000001)) aw_108 dX7_text_10 ?_
    refine j_callVI X (nn := 1) (As := [.int (-1000000001)]) (st := []) (ci := 7) (by decide) (wE_7 _ rfl) rfl aw_117 aw_118 (c_X7_refuse l D y ad M (-1000000001) 1 (by decide) (by decide)) aw_116 aw_119 aw_2 (by decide +kernel) ⟨by decide, by decide⟩ rfl (Nat.le_of_ble_eq_true rfl) ⟨by decide, by decide⟩ dX7_text_12 ?_
    rintro r_ M1_ ⟨rfl, rfl⟩
    exact j_iret X hr hlocks dX7_text_15 ⟨(by unfold sp_text; (repeat' split) <;> first | rfl | omega | (exfalso; omega)), (sm_up sm_rf rfl)⟩
set_option maxRecDepth 100000 in
set_option maxHeartbeats 4000000 in
theorem c0_X7_seed (l : Launch) (D : va_G) (y : wY) (ad : Nat → Nat) (M : Mem) (hz : Z0 M) (v : Int32) : MI l D y ad yX7_seed (Cond.code yX7_seed cX7_seed 3 (some .int)) 6 M [.ref (ad 0), .int v] (fun r M' => sp_seed v = r ∧ sm (fun b _ => decide (b < 79)) M M') := by
  refine MI_of (by decide) (Nat.le_of_ble_eq_true rfl) ?_
  intro p e s m args below meth c X hr hlocks
  refine j_lv (lv1 := [(0, .ref (ad 0)), (1, .int v)]) [0, 1] rfl ?_
  refine j_aload_n X 0 rfl rfl dX7_seed_0 ?_
  refine j_get X (by decide) (wE_7 _ rfl) rfl awF7 0 (by decide) aw_16 rfl (v := .ref (ad 1)) rfl dX7_seed_1 ?_
  refine j_getN X (by decide) (wE_6 _ rfl) rfl awF6 7 (by decide) (List.mem_of_getElem? (i := 28) rfl) rfl (v := .int (M 1 7)) rfl dX7_seed_4 ?_
  refine j_eqi (v := 1) hz.2.2.2.2.2.2.2.2.1 ?_
  refine j_istore_n X [(2, .int 1), (0, .ref (ad 0)), (1, .int v)] rfl (by decide) rfl dX7_seed_7 ?_
  refine j_aload_n X 1 rfl rfl dX7_seed_8 ?_
  refine j_get X (by decide) (wE_7 _ rfl) rfl awF7 0 (by decide) aw_16 rfl (v := .ref (ad 1)) rfl dX7_seed_9 ?_
  refine j_iload_n X 2 rfl rfl dX7_seed_12 ?_
  refine j_putN X (up M 1 7 v) up_o (by decide) (wE_6 _ rfl) rfl awF6 7 (by decide) (wP_6_7 _ _ rfl) tyX6 tyX6_ok nmX6 rfl (ty := .int) (by decide +kernel) rfl rfl (Nat.le_of_ble_eq_true rfl) (List.mem_of_getElem? (i := 28) rfl) rfl dX7_seed_13 ?_
  refine j_iload_n X 0 rfl rfl dX7_seed_16 ?_
  exact j_iret X hr hlocks dX7_seed_17 ⟨(by unfold sp_seed; (repeat' split) <;> first | rfl | omega | (exfalso; omega)), (sm_up sm_rf rfl)⟩
set_option maxRecDepth 100000 in
set_option maxHeartbeats 4000000 in
theorem c0_X7_trace (l : Launch) (D : va_G) (y : wY) (ad : Nat → Nat) (M : Mem) (hz : Z0 M) (i : Int32) : MI l D y ad yX7_trace (Cond.code yX7_trace cX7_trace 2 (some .int)) 6 M [.ref (ad 0), .int i] (fun r M' => sp_trace i = r ∧ sm (fun b _ => decide (b < 79)) M M') := by
  refine MI_of (by decide) (Nat.le_of_ble_eq_true rfl) ?_
  intro p e s m args below meth c X hr hlocks
  refine j_lv (lv1 := [(0, .ref (ad 0)), (1, .int i)]) [0, 1] rfl ?_
  refine j_iload_n X 1 rfl rfl dX7_trace_0 ?_
  refine j_iconst X (v := 0) (by decide) dX7_trace_1 ?_
  refine j_aload_n X 0 rfl rfl dX7_trace_2 ?_
  refine j_get X (by decide) (wE_7 _ rfl) rfl awF7 4 (by decide) aw_29 rfl (v := .ref (ad 67)) rfl dX7_trace_3 ?_
  refine j_getN X (by decide) (wE_5 _ rfl) rfl awF5 1 (by decide) (List.mem_of_getElem? (i := 31) rfl) rfl (v := .int (M 67 1)) rfl dX7_trace_6 ?_
  refine j_eqi (v := 0) hz.2.2.2.2.2.2.2.2.2.1 ?_
  refine j_iconst X (v := 1) (by decide) dX7_trace_9 ?_
  refine j_isub X dX7_trace_10 ?_
  refine j_eqi (v := (-1)) (by decide) ?_
  refine j_callSI X (nn := 3) (As := [.int i, .int 0, .int (-1)]) (st := []) aw_110 (c_X7_isWithin l D y ad M i 0 (-1) 0 (-1) (by decide) (by decide)) aw_109 aw_111 aw_2 (by decide +kernel) ⟨by decide, by decide⟩ rfl (Nat.le_of_ble_eq_true rfl) ⟨by decide, by decide⟩ dX7_trace_11 ?_
  rintro r_ M1_ (⟨rfl, rfl, h_1⟩ | ⟨rfl, rfl, h_1⟩)
  · exfalso; omega
  · refine j_if_eq X 29 (by decide) dX7_trace_14 (fun c_2 => ?_) (fun c_2 => False.elim (by revert c_2; decide))
    refine j_aload_n X 0 rfl rfl dX7_trace_29 ?_
    refine j_ldc X (v := (-1000000002)) aw_560 dX7_trace_30 ?_
    refine j_callVI X (nn := 1) (As := [.int (-1000000002)]) (st := []) (ci := 7) (by decide) (wE_7 _ rfl) rfl aw_117 aw_118 (c_X7_refuse l D y ad M (-1000000002) 2 (by decide) (by decide)) aw_116 aw_119 aw_2 (by decide +kernel) ⟨by decide, by decide⟩ rfl (Nat.le_of_ble_eq_true rfl) ⟨by decide, by decide⟩ dX7_trace_32 ?_
    rintro r_ M1_ ⟨rfl, rfl⟩
    exact j_iret X hr hlocks dX7_trace_35 ⟨(by unfold sp_trace; (repeat' split) <;> first | rfl | omega | (exfalso; omega)), (sm_up sm_rf rfl)⟩
set_option maxRecDepth 100000 in
set_option maxHeartbeats 4000000 in
theorem c0_X7_restore (l : Launch) (D : va_G) (y : wY) (ad : Nat → Nat) (M : Mem) (hz : Z0 M) : MI l D y ad yX7_restore (Cond.code yX7_restore cX7_restore 1 (some .int)) 6 M [.ref (ad 0)] (fun r M' => sp_restore = r ∧ sm (fun b _ => decide (b < 79)) M M') := by
  refine MI_of (by decide) (Nat.le_of_ble_eq_true rfl) ?_
  intro p e s m args below meth c X hr hlocks
  refine j_lv (lv1 := [(0, .ref (ad 0))]) [0] rfl ?_
  refine j_aload_n X 0 rfl rfl dX7_restore_0 ?_
  refine j_get X (by decide) (wE_7 _ rfl) rfl awF7 7 (by decide) aw_867 rfl (v := .int (M 0 7)) rfl dX7_restore_1 ?_
  refine j_eqi (v := 0) hz.2.2.2.2.2.2.2.2.2.2.1 ?_
  refine j_if_ne X 14 (by decide) dX7_restore_4 (fun c_1 => False.elim (by revert c_1; decide)) (fun c_1 => ?_)
  refine j_aload_n X 0 rfl rfl dX7_restore_7 ?_
  refine j_ldc X (v := (-1000000002)) aw_560 dX7_restore_8 ?_
  refine j_callVI X (nn := 1) (As := [.int (-1000000002)]) (st := []) (ci := 7) (by decide) (wE_7 _ rfl) rfl aw_117 aw_118 (c_X7_refuse l D y ad M (-1000000002) 2 (by decide) (by decide)) aw_116 aw_119 aw_2 (by decide +kernel) ⟨by decide, by decide⟩ rfl (Nat.le_of_ble_eq_true rfl) ⟨by decide, by decide⟩ dX7_restore_10 ?_
  rintro r_ M1_ ⟨rfl, rfl⟩
  exact j_iret X hr hlocks dX7_restore_13 ⟨(by unfold sp_restore; (repeat' split) <;> first | rfl | omega | (exfalso; omega)), (sm_up sm_rf rfl)⟩
set_option maxRecDepth 100000 in
set_option maxHeartbeats 4000000 in
theorem c0_X7_tell (l : Launch) (D : va_G) (y : wY) (ad : Nat → Nat) (M : Mem) (hz : Z0 M) (v : Int32) : MI l D y ad yX7_tell (Cond.code yX7_tell cX7_tell 2 (some .int)) 6 M [.ref (ad 0), .int v] (fun r M' => sp_tell v = r ∧ sm (fun b _ => decide (b < 79)) M M') := by
  refine MI_of (by decide) (Nat.le_of_ble_eq_true rfl) ?_
  intro p e s m args below meth c X hr hlocks
  refine j_lv (lv1 := [(0, .ref (ad 0)), (1, .int v)]) [0, 1] rfl ?_
  refine j_aload_n X 0 rfl rfl dX7_tell_0 ?_
  refine j_get X (by decide) (wE_7 _ rfl) rfl awF7 0 (by decide) aw_16 rfl (v := .ref (ad 1)) rfl dX7_tell_1 ?_
  refine j_getN X (by decide) (wE_6 _ rfl) rfl awF6 6 (by decide) (List.mem_of_getElem? (i := 27) rfl) rfl (v := .int (M 1 6)) rfl dX7_tell_4 ?_
  refine j_eqi (v := 0) hz.2.2.2.2.2.2.2.1 ?_
  refine j_bipush X (v := 20) (by decide) dX7_tell_7 ?_
  refine j_icmp_lt X 19 (by decide) dX7_tell_9 (fun c_1 => ?_) (fun c_1 => False.elim (by revert c_1; decide))
  refine j_aload_n X 0 rfl rfl dX7_tell_19 ?_
  refine j_get X (by decide) (wE_7 _ rfl) rfl awF7 0 (by decide) aw_16 rfl (v := .ref (ad 1)) rfl dX7_tell_20 ?_
  refine j_getN X (by decide) (wE_6 _ rfl) rfl awF6 4 (by decide) (List.mem_of_getElem? (i := 25) rfl) rfl (v := .ref (ad 24)) rfl dX7_tell_23 ?_
  refine j_aload_n X 0 rfl rfl dX7_tell_26 ?_
  refine j_get X (by decide) (wE_7 _ rfl) rfl awF7 0 (by decide) aw_16 rfl (v := .ref (ad 1)) rfl dX7_tell_27 ?_
  refine j_getN X (by decide) (wE_6 _ rfl) rfl awF6 6 (by decide) (List.mem_of_getElem? (i := 27) rfl) rfl (v := .int (M 1 6)) rfl dX7_tell_30 ?_
  refine j_eqi (v := 0) hz.2.2.2.2.2.2.2.1 ?_
  refine j_iload_n X 1 rfl rfl dX7_tell_33 ?_
  refine j_iast X (by decide) rfl (by unfold vp_in; decide) dX7_tell_34 ?_
  refine j_eqM (M1 := (up M 24 0 v)) rfl ?_
  refine j_aload_n X 0 rfl rfl dX7_tell_35 ?_
  refine j_get X (by decide) (wE_7 _ rfl) rfl awF7 0 (by decide) aw_16 rfl (v := .ref (ad 1)) rfl dX7_tell_36 ?_
  refine j_dup X rfl dX7_tell_39 ?_
  refine j_getN X (by decide) (wE_6 _ rfl) rfl awF6 6 (by decide) (List.mem_of_getElem? (i := 27) rfl) rfl (v := .int ((up M 24 0 v) 1 6)) rfl dX7_tell_40 ?_
  refine j_eqi (v := 0) ((show _ = M 1 6 from by simp [up]).trans hz.2.2.2.2.2.2.2.1) ?_
  refine j_iconst X (v := 1) (by decide) dX7_tell_43 ?_
  refine j_iadd X dX7_tell_44 ?_
  refine j_eqi (v := 1) (by decide) ?_
  refine j_putN X (up (up M 24 0 v) 1 6 1) up_o (by decide) (wE_6 _ rfl) rfl awF6 6 (by decide) (wP_6_6 _ _ rfl) tyX6 tyX6_ok nmX6 rfl (ty := .int) (by decide +kernel) rfl rfl (Nat.le_of_ble_eq_true rfl) (List.mem_of_getElem? (i := 27) rfl) rfl dX7_tell_45 ?_
  refine j_aload_n X 0 rfl rfl dX7_tell_48 ?_
  refine j_get X (by decide) (wE_7 _ rfl) rfl awF7 0 (by decide) aw_16 rfl (v := .ref (ad 1)) rfl dX7_tell_49 ?_
  refine j_getN X (by decide) (wE_6 _ rfl) rfl awF6 6 (by decide) (List.mem_of_getElem? (i := 27) rfl) rfl (v := .int ((up (up M 24 0 v) 1 6 1) 1 6)) rfl dX7_tell_52 ?_
  refine j_eqi (v := 1) (by simp [up]) ?_
  exact j_iret X hr hlocks dX7_tell_55 ⟨(by unfold sp_tell; (repeat' split) <;> first | rfl | omega | (exfalso; omega)), (sm_up (sm_up sm_rf rfl) rfl)⟩
set_option maxRecDepth 100000 in
set_option maxHeartbeats 4000000 in
theorem c0_X7_count (l : Launch) (D : va_G) (y : wY) (ad : Nat → Nat) (M : Mem) (hz : Z0 M) (what : Int32) : MI l D y ad yX7_count (Cond.code yX7_count cX7_count 3 (some .int)) 6 M [.ref (ad 0), .int what] (fun r M' => sp_count what = r ∧ sm (fun b _ => decide (b < 79)) M M') := by
  refine MI_of (by decide) (Nat.le_of_ble_eq_true rfl) ?_
  intro p e s m args below meth c X hr hlocks
  refine j_lv (lv1 := [(0, .ref (ad 0)), (1, .int what)]) [0, 1] rfl ?_
  refine j_aload_n X 0 rfl rfl dX7_count_0 ?_
  refine j_get X (by decide) (wE_7 _ rfl) rfl awF7 0 (by decide) aw_16 rfl (v := .ref (ad 1)) rfl dX7_count_1 ?_
  refine j_getN X (by decide) (wE_6 _ rfl) rfl awF6 2 (by decide) (List.mem_of_getElem? (i := 23) rfl) rfl (v := .ref (ad 12)) rfl dX7_count_4 ?_
  refine j_astore_n X [(2, .ref (ad 12)), (0, .ref (ad 0)), (1, .int what)] rfl (by decide) rfl dX7_count_7 ?_
  refine j_iload_n X 2 rfl rfl dX7_count_8 ?_
  by_cases w_1 : what = 0
  · refine j_tsw_in X 72 0 w_1 (by decide) (by decide) (off := 63) rfl (by decide) dX7_count_9 ?_
    have qw_1 := ti_eq (n := 0) (by decide) w_1
    refine j_aload_n X 0 rfl rfl dX7_count_72 ?_
    refine j_getN X (by decide) (wE_0 _ rfl) rfl awF0 3 (by decide) (List.mem_of_getElem? (i := 15) rfl) rfl (v := .int (M 12 3)) rfl dX7_count_73 ?_
    refine j_eqi (v := 0) hz.1 ?_
    exact j_iret X hr hlocks dX7_count_76 ⟨(by unfold sp_count; (repeat' split) <;> first | rfl | omega | (exfalso; omega)), sm_rf⟩
  by_cases w_2 : what = 1
  · refine j_tsw_in X 77 1 w_2 (by decide) (by decide) (off := 68) rfl (by decide) dX7_count_9 ?_
    have qw_2 := ti_eq (n := 1) (by decide) w_2
    refine j_aload_n X 0 rfl rfl dX7_count_77 ?_
    refine j_getN X (by decide) (wE_0 _ rfl) rfl awF0 6 (by decide) (List.mem_of_getElem? (i := 18) rfl) rfl (v := .int (M 12 6)) rfl dX7_count_78 ?_
    refine j_eqi (v := 0) hz.2.2.2.1 ?_
    exact j_iret X hr hlocks dX7_count_81 ⟨(by unfold sp_count; (repeat' split) <;> first | rfl | omega | (exfalso; omega)), sm_rf⟩
  by_cases w_3 : what = 2
  · refine j_tsw_in X 82 2 w_3 (by decide) (by decide) (off := 73) rfl (by decide) dX7_count_9 ?_
    have qw_3 := ti_eq (n := 2) (by decide) w_3
    refine j_aload_n X 0 rfl rfl dX7_count_82 ?_
    refine j_getN X (by decide) (wE_0 _ rfl) rfl awF0 4 (by decide) (List.mem_of_getElem? (i := 16) rfl) rfl (v := .int (M 12 4)) rfl dX7_count_83 ?_
    refine j_eqi (v := 0) hz.2.1 ?_
    exact j_iret X hr hlocks dX7_count_86 ⟨(by unfold sp_count; (repeat' split) <;> first | rfl | omega | (exfalso; omega)), sm_rf⟩
  by_cases w_4 : what = 3
  · refine j_tsw_in X 87 3 w_4 (by decide) (by decide) (off := 78) rfl (by decide) dX7_count_9 ?_
    have qw_4 := ti_eq (n := 3) (by decide) w_4
    refine j_aload_n X 0 rfl rfl dX7_count_87 ?_
    refine j_getN X (by decide) (wE_0 _ rfl) rfl awF0 5 (by decide) (List.mem_of_getElem? (i := 17) rfl) rfl (v := .int (M 12 5)) rfl dX7_count_88 ?_
    refine j_eqi (v := 1) hz.2.2.1 ?_
    exact j_iret X hr hlocks dX7_count_91 ⟨(by unfold sp_count; (repeat' split) <;> first | rfl | omega | (exfalso; omega)), sm_rf⟩
  by_cases w_5 : what = 4
  · refine j_tsw_in X 92 4 w_5 (by decide) (by decide) (off := 83) rfl (by decide) dX7_count_9 ?_
    have qw_5 := ti_eq (n := 4) (by decide) w_5
    refine j_aload_n X 0 rfl rfl dX7_count_92 ?_
    refine j_getN X (by decide) (wE_0 _ rfl) rfl awF0 7 (by decide) (List.mem_of_getElem? (i := 19) rfl) rfl (v := .int (M 12 7)) rfl dX7_count_93 ?_
    refine j_eqi (v := 0) hz.2.2.2.2.1 ?_
    exact j_iret X hr hlocks dX7_count_96 ⟨(by unfold sp_count; (repeat' split) <;> first | rfl | omega | (exfalso; omega)), sm_rf⟩
  by_cases w_6 : what = 5
  · refine j_tsw_in X 97 5 w_6 (by decide) (by decide) (off := 88) rfl (by decide) dX7_count_9 ?_
    have qw_6 := ti_eq (n := 5) (by decide) w_6
    refine j_aload_n X 0 rfl rfl dX7_count_97 ?_
    refine j_getN X (by decide) (wE_0 _ rfl) rfl awF0 8 (by decide) (List.mem_of_getElem? (i := 20) rfl) rfl (v := .int (M 12 8)) rfl dX7_count_98 ?_
    refine j_eqi (v := 0) hz.2.2.2.2.2.1 ?_
    exact j_iret X hr hlocks dX7_count_101 ⟨(by unfold sp_count; (repeat' split) <;> first | rfl | omega | (exfalso; omega)), sm_rf⟩
  by_cases w_7 : what = 6
  · refine j_tsw_in X 102 6 w_7 (by decide) (by decide) (off := 93) rfl (by decide) dX7_count_9 ?_
    have qw_7 := ti_eq (n := 6) (by decide) w_7
    refine j_aload_n X 0 rfl rfl dX7_count_102 ?_
    refine j_callVNI X (nn := 0) (As := []) (st := []) (ci := 0) (by decide) (wE_0 _ rfl) rfl aw_466 aw_467 (c_setEnded0_12 l D y ad M hz.1) (List.mem_of_getElem? (i := 35) rfl) aw_468 aw_20 (by decide +kernel) ⟨by decide, by decide⟩ rfl (Nat.le_of_ble_eq_true rfl) ⟨by decide, by decide⟩ dX7_count_103 ?_
    rintro r_ M1_ ⟨rfl, rfl⟩
    exact j_iret X hr hlocks dX7_count_106 ⟨(by unfold sp_count; (repeat' split) <;> first | rfl | omega | (exfalso; omega)), sm_rf⟩
  by_cases w_8 : what = 7
  · refine j_tsw_in X 107 7 w_8 (by decide) (by decide) (off := 98) rfl (by decide) dX7_count_9 ?_
    have qw_8 := ti_eq (n := 7) (by decide) w_8
    refine j_aload_n X 0 rfl rfl dX7_count_107 ?_
    refine j_callVNI X (nn := 0) (As := []) (st := []) (ci := 0) (by decide) (wE_0 _ rfl) rfl aw_908 aw_909 (c_edgesTogether0_12 l D y ad M hz.1) (List.mem_of_getElem? (i := 51) rfl) aw_910 aw_20 (by decide +kernel) ⟨by decide, by decide⟩ rfl (Nat.le_of_ble_eq_true rfl) ⟨by decide, by decide⟩ dX7_count_108 ?_
    rintro r_ M1_ ⟨rfl, rfl⟩
    exact j_iret X hr hlocks dX7_count_111 ⟨(by unfold sp_count; (repeat' split) <;> first | rfl | omega | (exfalso; omega)), sm_rf⟩
  by_cases w_9 : what = 8
  · refine j_tsw_in X 112 8 w_9 (by decide) (by decide) (off := 103) rfl (by decide) dX7_count_9 ?_
    have qw_9 := ti_eq (n := 8) (by decide) w_9
    refine j_aload_n X 1 rfl rfl dX7_count_112 ?_
    refine j_get X (by decide) (wE_7 _ rfl) rfl awF7 0 (by decide) aw_16 rfl (v := .ref (ad 1)) rfl dX7_count_113 ?_
    refine j_getN X (by decide) (wE_6 _ rfl) rfl awF6 5 (by decide) (List.mem_of_getElem? (i := 26) rfl) rfl (v := .int (M 1 5)) rfl dX7_count_116 ?_
    refine j_eqi (v := 0) hz.2.2.2.2.2.2.1 ?_
    exact j_iret X hr hlocks dX7_count_119 ⟨(by unfold sp_count; (repeat' split) <;> first | rfl | omega | (exfalso; omega)), sm_rf⟩
  by_cases w_10 : what = 9
  · refine j_tsw_in X 120 9 w_10 (by decide) (by decide) (off := 111) rfl (by decide) dX7_count_9 ?_
    have qw_10 := ti_eq (n := 9) (by decide) w_10
    refine j_aload_n X 1 rfl rfl dX7_count_120 ?_
    refine j_get X (by decide) (wE_7 _ rfl) rfl awF7 0 (by decide) aw_16 rfl (v := .ref (ad 1)) rfl dX7_count_121 ?_
    refine j_getN X (by decide) (wE_6 _ rfl) rfl awF6 6 (by decide) (List.mem_of_getElem? (i := 27) rfl) rfl (v := .int (M 1 6)) rfl dX7_count_124 ?_
    refine j_eqi (v := 0) hz.2.2.2.2.2.2.2.1 ?_
    exact j_iret X hr hlocks dX7_count_127 ⟨(by unfold sp_count; (repeat' split) <;> first | rfl | omega | (exfalso; omega)), sm_rf⟩
  by_cases w_11 : what = 10
  · refine j_tsw_in X 128 10 w_11 (by decide) (by decide) (off := 119) rfl (by decide) dX7_count_9 ?_
    have qw_11 := ti_eq (n := 10) (by decide) w_11
    refine j_aload_n X 1 rfl rfl dX7_count_128 ?_
    refine j_get X (by decide) (wE_7 _ rfl) rfl awF7 4 (by decide) aw_29 rfl (v := .ref (ad 67)) rfl dX7_count_129 ?_
    refine j_getN X (by decide) (wE_5 _ rfl) rfl awF5 1 (by decide) (List.mem_of_getElem? (i := 31) rfl) rfl (v := .int (M 67 1)) rfl dX7_count_132 ?_
    refine j_eqi (v := 0) hz.2.2.2.2.2.2.2.2.2.1 ?_
    exact j_iret X hr hlocks dX7_count_135 ⟨(by unfold sp_count; (repeat' split) <;> first | rfl | omega | (exfalso; omega)), sm_rf⟩
  by_cases w_12 : what = 11
  · refine j_tsw_in X 136 11 w_12 (by decide) (by decide) (off := 127) rfl (by decide) dX7_count_9 ?_
    have qw_12 := ti_eq (n := 11) (by decide) w_12
    refine j_aload_n X 1 rfl rfl dX7_count_136 ?_
    refine j_get X (by decide) (wE_7 _ rfl) rfl awF7 0 (by decide) aw_16 rfl (v := .ref (ad 1)) rfl dX7_count_137 ?_
    refine j_getN X (by decide) (wE_6 _ rfl) rfl awF6 7 (by decide) (List.mem_of_getElem? (i := 28) rfl) rfl (v := .int (M 1 7)) rfl dX7_count_140 ?_
    refine j_eqi (v := 1) hz.2.2.2.2.2.2.2.2.1 ?_
    exact j_iret X hr hlocks dX7_count_143 ⟨(by unfold sp_count; (repeat' split) <;> first | rfl | omega | (exfalso; omega)), sm_rf⟩
  refine j_tsw_out X 144 (tsw_out 11 (by decide) (fun j hj => by
    have hj : j = 0 ∨ j = 1 ∨ j = 2 ∨ j = 3 ∨ j = 4 ∨ j = 5 ∨ j = 6 ∨ j = 7 ∨ j = 8 ∨ j = 9 ∨ j = 10 ∨ j = 11 := by omega
    rcases hj with rfl | rfl | rfl | rfl | rfl | rfl | rfl | rfl | rfl | rfl | rfl | rfl
    · exact w_1
    · exact w_2
    · exact w_3
    · exact w_4
    · exact w_5
    · exact w_6
    · exact w_7
    · exact w_8
    · exact w_9
    · exact w_10
    · exact w_11
    · exact w_12
    )) (by decide) dX7_count_9 ?_
  have qw_1 := ti_ne (n := 0) (by decide) w_1
  have qw_2 := ti_ne (n := 1) (by decide) w_2
  have qw_3 := ti_ne (n := 2) (by decide) w_3
  have qw_4 := ti_ne (n := 3) (by decide) w_4
  have qw_5 := ti_ne (n := 4) (by decide) w_5
  have qw_6 := ti_ne (n := 5) (by decide) w_6
  have qw_7 := ti_ne (n := 6) (by decide) w_7
  have qw_8 := ti_ne (n := 7) (by decide) w_8
  have qw_9 := ti_ne (n := 8) (by decide) w_9
  have qw_10 := ti_ne (n := 9) (by decide) w_10
  have qw_11 := ti_ne (n := 10) (by decide) w_11
  have qw_12 := ti_ne (n := 11) (by decide) w_12
  refine j_aload_n X 1 rfl rfl dX7_count_144 ?_
  refine j_ldc X (v := (-1000000001)) aw_108 dX7_count_145 ?_
  refine j_callVI X (nn := 1) (As := [.int (-1000000001)]) (st := []) (ci := 7) (by decide) (wE_7 _ rfl) rfl aw_117 aw_118 (c_X7_refuse l D y ad M (-1000000001) 1 (by decide) (by decide)) aw_116 aw_119 aw_2 (by decide +kernel) ⟨by decide, by decide⟩ rfl (Nat.le_of_ble_eq_true rfl) ⟨by decide, by decide⟩ dX7_count_147 ?_
  rintro r_ M1_ ⟨rfl, rfl⟩
  exact j_iret X hr hlocks dX7_count_150 ⟨(by unfold sp_count; (repeat' split) <;> first | rfl | omega | (exfalso; omega)), (sm_up sm_rf rfl)⟩
set_option maxRecDepth 100000 in
set_option maxHeartbeats 4000000 in
theorem c0_X7_told (l : Launch) (D : va_G) (y : wY) (ad : Nat → Nat) (M : Mem) (hz : Z0 M) (i : Int32) : MI l D y ad yX7_told (Cond.code yX7_told cX7_told 2 (some .int)) 6 M [.ref (ad 0), .int i] (fun r M' => sp_told i = r ∧ sm (fun b _ => decide (b < 79)) M M') := by
  refine MI_of (by decide) (Nat.le_of_ble_eq_true rfl) ?_
  intro p e s m args below meth c X hr hlocks
  refine j_lv (lv1 := [(0, .ref (ad 0)), (1, .int i)]) [0, 1] rfl ?_
  refine j_iload_n X 1 rfl rfl dX7_told_0 ?_
  refine j_iconst X (v := 1) (by decide) dX7_told_1 ?_
  refine j_iconst X (v := 5) (by decide) dX7_told_2 ?_
  refine j_callSI X (nn := 3) (As := [.int i, .int 1, .int 5]) (st := []) aw_110 (c_X7_isWithin l D y ad M i 1 5 1 5 (by decide) (by decide)) aw_109 aw_111 aw_2 (by decide +kernel) ⟨by decide, by decide⟩ rfl (Nat.le_of_ble_eq_true rfl) ⟨by decide, by decide⟩ dX7_told_3 ?_
  rintro r_ M1_ (⟨rfl, rfl, h_1⟩ | ⟨rfl, rfl, h_1⟩)
  · refine j_if_eq X 18 (by decide) dX7_told_6 (fun c_2 => False.elim (by revert c_2; decide)) (fun c_2 => ?_)
    refine j_aload_n X 0 rfl rfl dX7_told_9 ?_
    refine j_get X (by decide) (wE_7 _ rfl) rfl awF7 6 (by decide) aw_33 rfl (v := .ref (ad 78)) rfl dX7_told_10 ?_
    refine j_iload_n X 1 rfl rfl dX7_told_13 ?_
    rcases is_1_5 h_1 with rfl | rfl | rfl | rfl | rfl
    · refine j_iald X (by decide) rfl (by unfold vp_in; decide) dX7_told_14 ?_
      refine j_eqi (v := 0) hz.2.2.2.2.2.2.2.2.2.2.2.2.2.2.2.2.2.2.2.1 ?_
      refine j_goto X 24 (by decide) dX7_told_15 ?_
      exact j_iret X hr hlocks dX7_told_24 ⟨(by unfold sp_told; (repeat' split) <;> first | rfl | omega | (exfalso; omega)), sm_rf⟩
    · refine j_iald X (by decide) rfl (by unfold vp_in; decide) dX7_told_14 ?_
      refine j_eqi (v := 0) hz.2.2.2.2.2.2.2.2.2.2.2.2.2.2.2.2.2.2.2.2.1 ?_
      refine j_goto X 24 (by decide) dX7_told_15 ?_
      exact j_iret X hr hlocks dX7_told_24 ⟨(by unfold sp_told; (repeat' split) <;> first | rfl | omega | (exfalso; omega)), sm_rf⟩
    · refine j_iald X (by decide) rfl (by unfold vp_in; decide) dX7_told_14 ?_
      refine j_eqi (v := 0) hz.2.2.2.2.2.2.2.2.2.2.2.2.2.2.2.2.2.2.2.2.2.1 ?_
      refine j_goto X 24 (by decide) dX7_told_15 ?_
      exact j_iret X hr hlocks dX7_told_24 ⟨(by unfold sp_told; (repeat' split) <;> first | rfl | omega | (exfalso; omega)), sm_rf⟩
    · refine j_iald X (by decide) rfl (by unfold vp_in; decide) dX7_told_14 ?_
      refine j_eqi (v := 0) hz.2.2.2.2.2.2.2.2.2.2.2.2.2.2.2.2.2.2.2.2.2.2.1 ?_
      refine j_goto X 24 (by decide) dX7_told_15 ?_
      exact j_iret X hr hlocks dX7_told_24 ⟨(by unfold sp_told; (repeat' split) <;> first | rfl | omega | (exfalso; omega)), sm_rf⟩
    · refine j_iald X (by decide) rfl (by unfold vp_in; decide) dX7_told_14 ?_
      refine j_eqi (v := 0) hz.2.2.2.2.2.2.2.2.2.2.2.2.2.2.2.2.2.2.2.2.2.2.2 ?_
      refine j_goto X 24 (by decide) dX7_told_15 ?_
      exact j_iret X hr hlocks dX7_told_24 ⟨(by unfold sp_told; (repeat' split) <;> first | rfl | omega | (exfalso; omega)), sm_rf⟩
  · refine j_if_eq X 18 (by decide) dX7_told_6 (fun c_3 => ?_) (fun c_3 => False.elim (by revert c_3; decide))
    refine j_aload_n X 0 rfl rfl dX7_told_18 ?_
    refine j_ldc X (v := (-1000000001)) aw_108 dX7_told_19 ?_
    refine j_callVI X (nn := 1) (As := [.int (-1000000001)]) (st := []) (ci := 7) (by decide) (wE_7 _ rfl) rfl aw_117 aw_118 (c_X7_refuse l D y ad M (-1000000001) 1 (by decide) (by decide)) aw_116 aw_119 aw_2 (by decide +kernel) ⟨by decide, by decide⟩ rfl (Nat.le_of_ble_eq_true rfl) ⟨by decide, by decide⟩ dX7_told_21 ?_
    rintro r_ M1_ ⟨rfl, rfl⟩
    exact j_iret X hr hlocks dX7_told_24 ⟨(by unfold sp_told; (repeat' split) <;> first | rfl | omega | (exfalso; omega)), (sm_up sm_rf rfl)⟩
set_option maxRecDepth 100000 in
set_option maxHeartbeats 4000000 in
theorem c_copyText0_26 (l : Launch) (D : va_G) (y : wY) (ad : Nat → Nat) (M : Mem) (hs : M 2 5 = 0) (hu : M 2 4 = 0) : MV l D y ad yX4_copyFrom (Cond.code yX4_copyFrom cX4_copyFrom 2 none) 1 M [.ref (ad 26), .ref (ad 2)] (fun M' => up (up M 26 4 0) 26 5 0 = M') := by
  refine MV_of (by decide) (Nat.le_of_ble_eq_true rfl) ?_
  intro p e s m args below meth c X hr hlocks
  refine j_lv (lv1 := [(0, .ref (ad 26)), (1, .ref (ad 2))]) [0, 1] rfl ?_
  refine j_aload_n X 1 rfl rfl dX4_copyFrom_0 ?_
  refine j_get X (by decide) (wE_4 _ rfl) rfl awF4 0 (by decide) aw_52 rfl (v := .ref (ad 3)) rfl dX4_copyFrom_1 ?_
  refine j_iconst X (v := 0) (by decide) dX4_copyFrom_4 ?_
  refine j_aload_n X 0 rfl rfl dX4_copyFrom_5 ?_
  refine j_get X (by decide) (wE_4 _ rfl) rfl awF4 0 (by decide) aw_52 rfl (v := .ref (ad 27)) rfl dX4_copyFrom_6 ?_
  refine j_iconst X (v := 0) (by decide) dX4_copyFrom_9 ?_
  refine j_aload_n X 1 rfl rfl dX4_copyFrom_10 ?_
  refine j_get X (by decide) (wE_4 _ rfl) rfl awF4 5 (by decide) aw_73 rfl (v := .int (M 2 5)) rfl dX4_copyFrom_11 ?_
  refine j_eqi (v := 0) hs ?_
  refine j_copy X (i := 3) (j := 27) aw_372 aw_320 aw_321 aw_322 (by decide) (by decide) rfl rfl (by decide) (by decide) (by decide) (by decide) (by decide) (by decide) (by decide +kernel) dX4_copyFrom_14 ?_
  refine j_eqM (M1 := M) copy0 ?_
  refine j_aload_n X 1 rfl rfl dX4_copyFrom_17 ?_
  refine j_get X (by decide) (wE_4 _ rfl) rfl awF4 1 (by decide) aw_53 rfl (v := .ref (ad 4)) rfl dX4_copyFrom_18 ?_
  refine j_iconst X (v := 0) (by decide) dX4_copyFrom_21 ?_
  refine j_aload_n X 0 rfl rfl dX4_copyFrom_22 ?_
  refine j_get X (by decide) (wE_4 _ rfl) rfl awF4 1 (by decide) aw_53 rfl (v := .ref (ad 28)) rfl dX4_copyFrom_23 ?_
  refine j_iconst X (v := 0) (by decide) dX4_copyFrom_26 ?_
  refine j_aload_n X 1 rfl rfl dX4_copyFrom_27 ?_
  refine j_get X (by decide) (wE_4 _ rfl) rfl awF4 5 (by decide) aw_73 rfl (v := .int (M 2 5)) rfl dX4_copyFrom_28 ?_
  refine j_eqi (v := 0) hs ?_
  refine j_copy X (i := 4) (j := 28) aw_372 aw_320 aw_321 aw_322 (by decide) (by decide) rfl rfl (by decide) (by decide) (by decide) (by decide) (by decide) (by decide) (by decide +kernel) dX4_copyFrom_31 ?_
  refine j_eqM (M1 := M) copy0 ?_
  refine j_aload_n X 1 rfl rfl dX4_copyFrom_34 ?_
  refine j_get X (by decide) (wE_4 _ rfl) rfl awF4 2 (by decide) aw_54 rfl (v := .ref (ad 5)) rfl dX4_copyFrom_35 ?_
  refine j_iconst X (v := 0) (by decide) dX4_copyFrom_38 ?_
  refine j_aload_n X 0 rfl rfl dX4_copyFrom_39 ?_
  refine j_get X (by decide) (wE_4 _ rfl) rfl awF4 2 (by decide) aw_54 rfl (v := .ref (ad 29)) rfl dX4_copyFrom_40 ?_
  refine j_iconst X (v := 0) (by decide) dX4_copyFrom_43 ?_
  refine j_aload_n X 1 rfl rfl dX4_copyFrom_44 ?_
  refine j_get X (by decide) (wE_4 _ rfl) rfl awF4 5 (by decide) aw_73 rfl (v := .int (M 2 5)) rfl dX4_copyFrom_45 ?_
  refine j_eqi (v := 0) hs ?_
  refine j_copy X (i := 5) (j := 29) aw_372 aw_320 aw_321 aw_322 (by decide) (by decide) rfl rfl (by decide) (by decide) (by decide) (by decide) (by decide) (by decide) (by decide +kernel) dX4_copyFrom_48 ?_
  refine j_eqM (M1 := M) copy0 ?_
  refine j_aload_n X 0 rfl rfl dX4_copyFrom_51 ?_
  refine j_aload_n X 1 rfl rfl dX4_copyFrom_52 ?_
  refine j_get X (by decide) (wE_4 _ rfl) rfl awF4 4 (by decide) aw_72 rfl (v := .int (M 2 4)) rfl dX4_copyFrom_53 ?_
  refine j_eqi (v := 0) hu ?_
  refine j_put X (up M 26 4 0) up_o (by decide) (wE_4 _ rfl) rfl awF4 4 (by decide) (wP_4_4 _ _ rfl) tyX4 tyX4_ok nmX4 rfl (ty := .int) (by decide +kernel) rfl rfl (Nat.le_of_ble_eq_true rfl) aw_72 rfl dX4_copyFrom_56 ?_
  refine j_aload_n X 0 rfl rfl dX4_copyFrom_59 ?_
  refine j_aload_n X 1 rfl rfl dX4_copyFrom_60 ?_
  refine j_get X (by decide) (wE_4 _ rfl) rfl awF4 5 (by decide) aw_73 rfl (v := .int ((up M 26 4 0) 2 5)) rfl dX4_copyFrom_61 ?_
  refine j_eqi (v := 0) ((show _ = M 2 5 from by simp [up]).trans hs) ?_
  refine j_put X (up (up M 26 4 0) 26 5 0) up_o (by decide) (wE_4 _ rfl) rfl awF4 5 (by decide) (wP_4_5 _ _ rfl) tyX4 tyX4_ok nmX4 rfl (ty := .int) (by decide +kernel) rfl rfl (Nat.le_of_ble_eq_true rfl) aw_73 rfl dX4_copyFrom_64 ?_
  exact j_vret X hr hlocks dX4_copyFrom_67 rfl
set_option maxRecDepth 100000 in
set_option maxHeartbeats 4000000 in
theorem c_copyText0_31 (l : Launch) (D : va_G) (y : wY) (ad : Nat → Nat) (M : Mem) (hs : M 7 5 = 0) (hu : M 7 4 = 1) : MV l D y ad yX4_copyFrom (Cond.code yX4_copyFrom cX4_copyFrom 2 none) 1 M [.ref (ad 31), .ref (ad 7)] (fun M' => up (up M 31 4 1) 31 5 0 = M') := by
  refine MV_of (by decide) (Nat.le_of_ble_eq_true rfl) ?_
  intro p e s m args below meth c X hr hlocks
  refine j_lv (lv1 := [(0, .ref (ad 31)), (1, .ref (ad 7))]) [0, 1] rfl ?_
  refine j_aload_n X 1 rfl rfl dX4_copyFrom_0 ?_
  refine j_get X (by decide) (wE_4 _ rfl) rfl awF4 0 (by decide) aw_52 rfl (v := .ref (ad 8)) rfl dX4_copyFrom_1 ?_
  refine j_iconst X (v := 0) (by decide) dX4_copyFrom_4 ?_
  refine j_aload_n X 0 rfl rfl dX4_copyFrom_5 ?_
  refine j_get X (by decide) (wE_4 _ rfl) rfl awF4 0 (by decide) aw_52 rfl (v := .ref (ad 32)) rfl dX4_copyFrom_6 ?_
  refine j_iconst X (v := 0) (by decide) dX4_copyFrom_9 ?_
  refine j_aload_n X 1 rfl rfl dX4_copyFrom_10 ?_
  refine j_get X (by decide) (wE_4 _ rfl) rfl awF4 5 (by decide) aw_73 rfl (v := .int (M 7 5)) rfl dX4_copyFrom_11 ?_
  refine j_eqi (v := 0) hs ?_
  refine j_copy X (i := 8) (j := 32) aw_372 aw_320 aw_321 aw_322 (by decide) (by decide) rfl rfl (by decide) (by decide) (by decide) (by decide) (by decide) (by decide) (by decide +kernel) dX4_copyFrom_14 ?_
  refine j_eqM (M1 := M) copy0 ?_
  refine j_aload_n X 1 rfl rfl dX4_copyFrom_17 ?_
  refine j_get X (by decide) (wE_4 _ rfl) rfl awF4 1 (by decide) aw_53 rfl (v := .ref (ad 9)) rfl dX4_copyFrom_18 ?_
  refine j_iconst X (v := 0) (by decide) dX4_copyFrom_21 ?_
  refine j_aload_n X 0 rfl rfl dX4_copyFrom_22 ?_
  refine j_get X (by decide) (wE_4 _ rfl) rfl awF4 1 (by decide) aw_53 rfl (v := .ref (ad 33)) rfl dX4_copyFrom_23 ?_
  refine j_iconst X (v := 0) (by decide) dX4_copyFrom_26 ?_
  refine j_aload_n X 1 rfl rfl dX4_copyFrom_27 ?_
  refine j_get X (by decide) (wE_4 _ rfl) rfl awF4 5 (by decide) aw_73 rfl (v := .int (M 7 5)) rfl dX4_copyFrom_28 ?_
  refine j_eqi (v := 0) hs ?_
  refine j_copy X (i := 9) (j := 33) aw_372 aw_320 aw_321 aw_322 (by decide) (by decide) rfl rfl (by decide) (by decide) (by decide) (by decide) (by decide) (by decide) (by decide +kernel) dX4_copyFrom_31 ?_
  refine j_eqM (M1 := M) copy0 ?_
  refine j_aload_n X 1 rfl rfl dX4_copyFrom_34 ?_
  refine j_get X (by decide) (wE_4 _ rfl) rfl awF4 2 (by decide) aw_54 rfl (v := .ref (ad 10)) rfl dX4_copyFrom_35 ?_
  refine j_iconst X (v := 0) (by decide) dX4_copyFrom_38 ?_
  refine j_aload_n X 0 rfl rfl dX4_copyFrom_39 ?_
  refine j_get X (by decide) (wE_4 _ rfl) rfl awF4 2 (by decide) aw_54 rfl (v := .ref (ad 34)) rfl dX4_copyFrom_40 ?_
  refine j_iconst X (v := 0) (by decide) dX4_copyFrom_43 ?_
  refine j_aload_n X 1 rfl rfl dX4_copyFrom_44 ?_
  refine j_get X (by decide) (wE_4 _ rfl) rfl awF4 5 (by decide) aw_73 rfl (v := .int (M 7 5)) rfl dX4_copyFrom_45 ?_
  refine j_eqi (v := 0) hs ?_
  refine j_copy X (i := 10) (j := 34) aw_372 aw_320 aw_321 aw_322 (by decide) (by decide) rfl rfl (by decide) (by decide) (by decide) (by decide) (by decide) (by decide) (by decide +kernel) dX4_copyFrom_48 ?_
  refine j_eqM (M1 := M) copy0 ?_
  refine j_aload_n X 0 rfl rfl dX4_copyFrom_51 ?_
  refine j_aload_n X 1 rfl rfl dX4_copyFrom_52 ?_
  refine j_get X (by decide) (wE_4 _ rfl) rfl awF4 4 (by decide) aw_72 rfl (v := .int (M 7 4)) rfl dX4_copyFrom_53 ?_
  refine j_eqi (v := 1) hu ?_
  refine j_put X (up M 31 4 1) up_o (by decide) (wE_4 _ rfl) rfl awF4 4 (by decide) (wP_4_4 _ _ rfl) tyX4 tyX4_ok nmX4 rfl (ty := .int) (by decide +kernel) rfl rfl (Nat.le_of_ble_eq_true rfl) aw_72 rfl dX4_copyFrom_56 ?_
  refine j_aload_n X 0 rfl rfl dX4_copyFrom_59 ?_
  refine j_aload_n X 1 rfl rfl dX4_copyFrom_60 ?_
  refine j_get X (by decide) (wE_4 _ rfl) rfl awF4 5 (by decide) aw_73 rfl (v := .int ((up M 31 4 1) 7 5)) rfl dX4_copyFrom_61 ?_
  refine j_eqi (v := 0) ((show _ = M 7 5 from by simp [up]).trans hs) ?_
  refine j_put X (up (up M 31 4 1) 31 5 0) up_o (by decide) (wE_4 _ rfl) rfl awF4 5 (by decide) (wP_4_5 _ _ rfl) tyX4 tyX4_ok nmX4 rfl (ty := .int) (by decide +kernel) rfl rfl (Nat.le_of_ble_eq_true rfl) aw_73 rfl dX4_copyFrom_64 ?_
  exact j_vret X hr hlocks dX4_copyFrom_67 rfl
set_option maxRecDepth 100000 in
set_option maxHeartbeats 4000000 in
theorem c_copyWhole0 (l : Launch) (D : va_G) (y : wY) (ad : Nat → Nat) (M : Mem) (hz : Z0 M) : MV l D y ad yX6_copyFrom (Cond.code yX6_copyFrom cX6_copyFrom 2 none) 2 M [.ref (ad 25), .ref (ad 1)] (fun M' => sm (fun b _ => decide (25 ≤ b) && decide (b ≤ 48)) M M') := by
  refine MV_of (by decide) (Nat.le_of_ble_eq_true rfl) ?_
  intro p e s m args below meth c X hr hlocks
  refine j_lv (lv1 := [(0, .ref (ad 25)), (1, .ref (ad 1))]) [0, 1] rfl ?_
  refine j_aload_n X 0 rfl rfl dX6_copyFrom_0 ?_
  refine j_get X (by decide) (wE_6 _ rfl) rfl awF6 0 (by decide) aw_42 rfl (v := .ref (ad 26)) rfl dX6_copyFrom_1 ?_
  refine j_aload_n X 1 rfl rfl dX6_copyFrom_4 ?_
  refine j_get X (by decide) (wE_6 _ rfl) rfl awF6 0 (by decide) aw_42 rfl (v := .ref (ad 2)) rfl dX6_copyFrom_5 ?_
  refine j_callVNV X (nn := 1) (As := [.ref (ad 2)]) (st := []) (ci := 4) (by decide) (wE_4 _ rfl) rfl aw_369 aw_370 (c_copyText0_26 l D y ad M hz.2.2.2.2.2.2.2.2.2.2.2.2.2.2.2.2.1 hz.2.2.2.2.2.2.2.2.2.2.2.2.2.2.2.1) (List.mem_of_getElem? (i := 49) rfl) aw_371 aw_41 (by decide +kernel) ⟨by decide, by decide⟩ rfl (Nat.le_of_ble_eq_true rfl) ⟨by decide, by decide⟩ dX6_copyFrom_8 ?_
  rintro M1_ rfl
  refine j_aload_n X 0 rfl rfl dX6_copyFrom_11 ?_
  refine j_get X (by decide) (wE_6 _ rfl) rfl awF6 1 (by decide) aw_43 rfl (v := .ref (ad 31)) rfl dX6_copyFrom_12 ?_
  refine j_aload_n X 1 rfl rfl dX6_copyFrom_15 ?_
  refine j_get X (by decide) (wE_6 _ rfl) rfl awF6 1 (by decide) aw_43 rfl (v := .ref (ad 7)) rfl dX6_copyFrom_16 ?_
  refine j_callVNV X (nn := 1) (As := [.ref (ad 7)]) (st := []) (ci := 4) (by decide) (wE_4 _ rfl) rfl aw_369 aw_370 (c_copyText0_31 l D y ad (up (up M 26 4 0) 26 5 0) ((show _ = M 7 5 from by simp [up]).trans hz.2.2.2.2.2.2.2.2.2.2.2.2.2.2.2.2.2.2.1) ((show _ = M 7 4 from by simp [up]).trans hz.2.2.2.2.2.2.2.2.2.2.2.2.2.2.2.2.2.1)) (List.mem_of_getElem? (i := 49) rfl) aw_371 aw_41 (by decide +kernel) ⟨by decide, by decide⟩ rfl (Nat.le_of_ble_eq_true rfl) ⟨by decide, by decide⟩ dX6_copyFrom_19 ?_
  rintro M1_ rfl
  refine j_aload_n X 0 rfl rfl dX6_copyFrom_22 ?_
  refine j_get X (by decide) (wE_6 _ rfl) rfl awF6 2 (by decide) aw_45 rfl (v := .ref (ad 36)) rfl dX6_copyFrom_23 ?_
  refine j_aload_n X 1 rfl rfl dX6_copyFrom_26 ?_
  refine j_get X (by decide) (wE_6 _ rfl) rfl awF6 2 (by decide) aw_45 rfl (v := .ref (ad 12)) rfl dX6_copyFrom_27 ?_
  refine j_callVNV X (nn := 1) (As := [.ref (ad 12)]) (st := []) (ci := 0) (by decide) (wE_0 _ rfl) rfl aw_537 aw_538 (c_copyFrom0_36 l D y ad (up (up (up (up M 26 4 0) 26 5 0) 31 4 1) 31 5 0) ((show _ = M 12 3 from by simp [up]).trans hz.1)) (List.mem_of_getElem? (i := 50) rfl) aw_539 aw_20 (by decide +kernel) ⟨by decide, by decide⟩ rfl (Nat.le_of_ble_eq_true rfl) ⟨by decide, by decide⟩ dX6_copyFrom_30 ?_
  rintro M_2 ⟨s_1, s_1_3, s_1_7, s_1_8⟩
  refine j_aload_n X 1 rfl rfl dX6_copyFrom_33 ?_
  refine j_get X (by decide) (wE_6 _ rfl) rfl awF6 3 (by decide) aw_46 rfl (v := .ref (ad 23)) rfl dX6_copyFrom_34 ?_
  refine j_iconst X (v := 0) (by decide) dX6_copyFrom_37 ?_
  refine j_aload_n X 0 rfl rfl dX6_copyFrom_38 ?_
  refine j_get X (by decide) (wE_6 _ rfl) rfl awF6 3 (by decide) aw_46 rfl (v := .ref (ad 47)) rfl dX6_copyFrom_39 ?_
  refine j_iconst X (v := 0) (by decide) dX6_copyFrom_42 ?_
  refine j_aload_n X 1 rfl rfl dX6_copyFrom_43 ?_
  refine j_get X (by decide) (wE_6 _ rfl) rfl awF6 5 (by decide) aw_871 rfl (v := .int (M_2 1 5)) rfl dX6_copyFrom_44 ?_
  refine j_eqi (v := 0) ((s_1 1 5 rfl).trans ((show _ = M 1 5 from by simp [up]).trans hz.2.2.2.2.2.2.1)) ?_
  refine j_copy X (i := 23) (j := 47) aw_872 aw_320 aw_321 aw_322 (by decide) (by decide) rfl rfl (by decide) (by decide) (by decide) (by decide) (by decide) (by decide) (by decide +kernel) dX6_copyFrom_47 ?_
  refine j_eqM (M1 := M_2) copy0 ?_
  refine j_aload_n X 1 rfl rfl dX6_copyFrom_50 ?_
  refine j_get X (by decide) (wE_6 _ rfl) rfl awF6 4 (by decide) aw_47 rfl (v := .ref (ad 24)) rfl dX6_copyFrom_51 ?_
  refine j_iconst X (v := 0) (by decide) dX6_copyFrom_54 ?_
  refine j_aload_n X 0 rfl rfl dX6_copyFrom_55 ?_
  refine j_get X (by decide) (wE_6 _ rfl) rfl awF6 4 (by decide) aw_47 rfl (v := .ref (ad 48)) rfl dX6_copyFrom_56 ?_
  refine j_iconst X (v := 0) (by decide) dX6_copyFrom_59 ?_
  refine j_aload_n X 1 rfl rfl dX6_copyFrom_60 ?_
  refine j_get X (by decide) (wE_6 _ rfl) rfl awF6 6 (by decide) aw_873 rfl (v := .int (M_2 1 6)) rfl dX6_copyFrom_61 ?_
  refine j_eqi (v := 0) ((s_1 1 6 rfl).trans ((show _ = M 1 6 from by simp [up]).trans hz.2.2.2.2.2.2.2.1)) ?_
  refine j_copy X (i := 24) (j := 48) aw_872 aw_320 aw_321 aw_322 (by decide) (by decide) rfl rfl (by decide) (by decide) (by decide) (by decide) (by decide) (by decide) (by decide +kernel) dX6_copyFrom_64 ?_
  refine j_eqM (M1 := M_2) copy0 ?_
  refine j_aload_n X 0 rfl rfl dX6_copyFrom_67 ?_
  refine j_aload_n X 1 rfl rfl dX6_copyFrom_68 ?_
  refine j_get X (by decide) (wE_6 _ rfl) rfl awF6 5 (by decide) aw_871 rfl (v := .int (M_2 1 5)) rfl dX6_copyFrom_69 ?_
  refine j_eqi (v := 0) ((s_1 1 5 rfl).trans ((show _ = M 1 5 from by simp [up]).trans hz.2.2.2.2.2.2.1)) ?_
  refine j_put X (up M_2 25 5 0) up_o (by decide) (wE_6 _ rfl) rfl awF6 5 (by decide) (wP_6_5 _ _ rfl) tyX6 tyX6_ok nmX6 rfl (ty := .int) (by decide +kernel) rfl rfl (Nat.le_of_ble_eq_true rfl) aw_871 rfl dX6_copyFrom_72 ?_
  refine j_aload_n X 0 rfl rfl dX6_copyFrom_75 ?_
  refine j_aload_n X 1 rfl rfl dX6_copyFrom_76 ?_
  refine j_get X (by decide) (wE_6 _ rfl) rfl awF6 6 (by decide) aw_873 rfl (v := .int ((up M_2 25 5 0) 1 6)) rfl dX6_copyFrom_77 ?_
  refine j_eqi (v := 0) ((show _ = M_2 1 6 from by simp [up]).trans ((s_1 1 6 rfl).trans ((show _ = M 1 6 from by simp [up]).trans hz.2.2.2.2.2.2.2.1))) ?_
  refine j_put X (up (up M_2 25 5 0) 25 6 0) up_o (by decide) (wE_6 _ rfl) rfl awF6 6 (by decide) (wP_6_6 _ _ rfl) tyX6 tyX6_ok nmX6 rfl (ty := .int) (by decide +kernel) rfl rfl (Nat.le_of_ble_eq_true rfl) aw_873 rfl dX6_copyFrom_80 ?_
  refine j_aload_n X 0 rfl rfl dX6_copyFrom_83 ?_
  refine j_aload_n X 1 rfl rfl dX6_copyFrom_84 ?_
  refine j_get X (by decide) (wE_6 _ rfl) rfl awF6 7 (by decide) aw_48 rfl (v := .int ((up (up M_2 25 5 0) 25 6 0) 1 7)) rfl dX6_copyFrom_85 ?_
  refine j_eqi (v := 1) ((show _ = M_2 1 7 from by simp [up]).trans ((s_1 1 7 rfl).trans ((show _ = M 1 7 from by simp [up]).trans hz.2.2.2.2.2.2.2.2.1))) ?_
  refine j_put X (up (up (up M_2 25 5 0) 25 6 0) 25 7 1) up_o (by decide) (wE_6 _ rfl) rfl awF6 7 (by decide) (wP_6_7 _ _ rfl) tyX6 tyX6_ok nmX6 rfl (ty := .int) (by decide +kernel) rfl rfl (Nat.le_of_ble_eq_true rfl) aw_48 rfl dX6_copyFrom_88 ?_
  exact j_vret X hr hlocks dX6_copyFrom_91 (sm_up (sm_up (sm_up (sm_tr (sm_up (sm_up (sm_up (sm_up sm_rf rfl) rfl) rfl) rfl) (sm_w s_1 (by intro b k hb; simp only [Bool.or_eq_false_iff, Bool.and_eq_false_iff, beq_eq_false_iff_ne, ne_eq, decide_eq_false_iff_not] at hb ⊢; omega))) rfl) rfl) rfl)
set_option maxRecDepth 100000 in
set_option maxHeartbeats 4000000 in
theorem c0_X7_image (l : Launch) (D : va_G) (y : wY) (ad : Nat → Nat) (M : Mem) (hz : Z0 M) : MI l D y ad yX7_image (Cond.code yX7_image cX7_image 1 (some .int)) 6 M [.ref (ad 0)] (fun r M' => sp_image = r ∧ sm (fun b _ => decide (b < 79)) M M') := by
  refine MI_of (by decide) (Nat.le_of_ble_eq_true rfl) ?_
  intro p e s m args below meth c X hr hlocks
  refine j_lv (lv1 := [(0, .ref (ad 0))]) [0] rfl ?_
  refine j_aload_n X 0 rfl rfl dX7_image_0 ?_
  refine j_get X (by decide) (wE_7 _ rfl) rfl awF7 1 (by decide) aw_17 rfl (v := .ref (ad 25)) rfl dX7_image_1 ?_
  refine j_aload_n X 0 rfl rfl dX7_image_4 ?_
  refine j_get X (by decide) (wE_7 _ rfl) rfl awF7 0 (by decide) aw_16 rfl (v := .ref (ad 1)) rfl dX7_image_5 ?_
  refine j_callVNV X (nn := 1) (As := [.ref (ad 1)]) (st := []) (ci := 6) (by decide) (wE_6 _ rfl) rfl aw_868 aw_869 (c_copyWhole0 l D y ad M hz) (List.mem_of_getElem? (i := 48) rfl) aw_870 aw_15 (by decide +kernel) ⟨by decide, by decide⟩ rfl (Nat.le_of_ble_eq_true rfl) ⟨by decide, by decide⟩ dX7_image_8 ?_
  rintro M_2 s_1
  refine j_aload_n X 0 rfl rfl dX7_image_11 ?_
  refine j_dup X rfl dX7_image_12 ?_
  refine j_get X (by decide) (wE_7 _ rfl) rfl awF7 7 (by decide) aw_867 rfl (v := .int (M_2 0 7)) rfl dX7_image_13 ?_
  refine j_eqi (v := 0) ((s_1 0 7 rfl).trans hz.2.2.2.2.2.2.2.2.2.2.1) ?_
  refine j_iconst X (v := 1) (by decide) dX7_image_16 ?_
  refine j_iadd X dX7_image_17 ?_
  refine j_eqi (v := 1) (by decide) ?_
  refine j_put X (up M_2 0 7 1) up_o (by decide) (wE_7 _ rfl) rfl awF7 7 (by decide) (wP_7_7 _ _ rfl) tyX7 tyX7_ok nmX7 rfl (ty := .int) (by decide +kernel) rfl rfl (Nat.le_of_ble_eq_true rfl) aw_867 rfl dX7_image_18 ?_
  refine j_aload_n X 0 rfl rfl dX7_image_21 ?_
  refine j_get X (by decide) (wE_7 _ rfl) rfl awF7 7 (by decide) aw_867 rfl (v := .int ((up M_2 0 7 1) 0 7)) rfl dX7_image_22 ?_
  refine j_eqi (v := 1) (by simp [up]) ?_
  exact j_iret X hr hlocks dX7_image_25 ⟨(by unfold sp_image; (repeat' split) <;> first | rfl | omega | (exfalso; omega)), (sm_up (sm_tr sm_rf (sm_w s_1 (by intro b k hb; simp only [Bool.or_eq_false_iff, Bool.and_eq_false_iff, beq_eq_false_iff_ne, ne_eq, decide_eq_false_iff_not] at hb ⊢; omega))) rfl)⟩
set_option maxRecDepth 100000 in
set_option maxHeartbeats 4000000 in
theorem c_turnInto_14 (l : Launch) (D : va_G) (y : wY) (ad : Nat → Nat) (M : Mem) (km : Int32) : MV l D y ad yX1_turnInto (Cond.code yX1_turnInto cX1_turnInto 2 none) 0 M [.ref (ad 14), .int km] (fun M' => sm (fun b _ => b == 14) M M') := by
  refine MV_of (by decide) (Nat.le_of_ble_eq_true rfl) ?_
  intro p e s m args below meth c X hr hlocks
  refine j_lv (lv1 := [(0, .ref (ad 14)), (1, .int km)]) [0, 1] rfl ?_
  refine j_aload_n X 0 rfl rfl dX1_turnInto_0 ?_
  refine j_iload_n X 1 rfl rfl dX1_turnInto_1 ?_
  refine j_bipush X (v := 10) (by decide) dX1_turnInto_2 ?_
  refine j_idiv X (by decide) dX1_turnInto_4 ?_
  refine j_put X (up M 14 0 (km / 10)) up_o (by decide) (wE_1 _ rfl) rfl awF1 0 (by decide) (wP_1_0 _ _ rfl) tyX1 tyX1_ok nmX1 rfl (ty := .int) (by decide +kernel) rfl rfl (Nat.le_of_ble_eq_true rfl) aw_175 rfl dX1_turnInto_5 ?_
  refine j_aload_n X 0 rfl rfl dX1_turnInto_8 ?_
  refine j_iload_n X 1 rfl rfl dX1_turnInto_9 ?_
  refine j_bipush X (v := 10) (by decide) dX1_turnInto_10 ?_
  refine j_irem X (by decide) dX1_turnInto_12 ?_
  refine j_put X (up (up M 14 0 (km / 10)) 14 1 (km - km / 10 * 10)) up_o (by decide) (wE_1 _ rfl) rfl awF1 1 (by decide) (wP_1_1 _ _ rfl) tyX1 tyX1_ok nmX1 rfl (ty := .int) (by decide +kernel) rfl rfl (Nat.le_of_ble_eq_true rfl) aw_176 rfl dX1_turnInto_13 ?_
  exact j_vret X hr hlocks dX1_turnInto_16 (sm_up (sm_up sm_rf rfl) rfl)
set_option maxRecDepth 100000 in
set_option maxHeartbeats 4000000 in
theorem c0_X7_quarrel (l : Launch) (D : va_G) (y : wY) (ad : Nat → Nat) (M : Mem) (hz : Z0 M) (km a ed o : Int32) : MI l D y ad yX7_quarrel (Cond.code yX7_quarrel cX7_quarrel 7 (some .int)) 6 M [.ref (ad 0), .int km, .int a, .int ed, .int o] (fun r M' => sp_quarrel km a ed o = r ∧ sm (fun b _ => decide (b < 79)) M M') := by
  refine MI_of (by decide) (Nat.le_of_ble_eq_true rfl) ?_
  intro p e s m args below meth c X hr hlocks
  refine j_lv (lv1 := [(0, .ref (ad 0)), (1, .int km), (2, .int a), (3, .int ed), (4, .int o)]) [0, 1, 2, 3, 4] rfl ?_
  refine j_aload_n X 0 rfl rfl dX7_quarrel_0 ?_
  refine j_get X (by decide) (wE_7 _ rfl) rfl awF7 0 (by decide) aw_16 rfl (v := .ref (ad 1)) rfl dX7_quarrel_1 ?_
  refine j_getN X (by decide) (wE_6 _ rfl) rfl awF6 2 (by decide) (List.mem_of_getElem? (i := 23) rfl) rfl (v := .ref (ad 12)) rfl dX7_quarrel_4 ?_
  refine j_astore X [(5, .ref (ad 12)), (0, .ref (ad 0)), (1, .int km), (2, .int a), (3, .int ed), (4, .int o)] (by decide) rfl dX7_quarrel_7 ?_
  refine j_iload_n X 2 rfl rfl dX7_quarrel_9 ?_
  refine j_callSI X (nn := 1) (As := [.int km]) (st := []) aw_170 (c_X7_isKindAndM l D y ad M km) aw_169 aw_171 aw_2 (by decide +kernel) ⟨by decide, by decide⟩ rfl (Nat.le_of_ble_eq_true rfl) ⟨by decide, by decide⟩ dX7_quarrel_10 ?_
  rintro r_ M1_ (⟨rfl, rfl, h_1⟩ | ⟨rfl, rfl, h_1⟩)
  · refine j_if_eq X 52 (by decide) dX7_quarrel_13 (fun c_2 => False.elim (by revert c_2; decide)) (fun c_2 => ?_)
    refine j_iload_n X 3 rfl rfl dX7_quarrel_16 ?_
    refine j_iconst X (v := 0) (by decide) dX7_quarrel_17 ?_
    refine j_bipush X (v := 9) (by decide) dX7_quarrel_18 ?_
    refine j_callSI X (nn := 3) (As := [.int a, .int 0, .int 9]) (st := []) aw_110 (c_X7_isWithin l D y ad M a 0 9 0 9 (by decide) (by decide)) aw_109 aw_111 aw_2 (by decide +kernel) ⟨by decide, by decide⟩ rfl (Nat.le_of_ble_eq_true rfl) ⟨by decide, by decide⟩ dX7_quarrel_20 ?_
    rintro r_ M1_ (⟨rfl, rfl, h_3⟩ | ⟨rfl, rfl, h_3⟩)
    · refine j_if_eq X 52 (by decide) dX7_quarrel_23 (fun c_4 => False.elim (by revert c_4; decide)) (fun c_4 => ?_)
      refine j_iload_n X 4 rfl rfl dX7_quarrel_26 ?_
      refine j_iconst X (v := 0) (by decide) dX7_quarrel_27 ?_
      refine j_bipush X (v := 99) (by decide) dX7_quarrel_28 ?_
      refine j_callSI X (nn := 3) (As := [.int ed, .int 0, .int 99]) (st := []) aw_110 (c_X7_isWithin l D y ad M ed 0 99 0 99 (by decide) (by decide)) aw_109 aw_111 aw_2 (by decide +kernel) ⟨by decide, by decide⟩ rfl (Nat.le_of_ble_eq_true rfl) ⟨by decide, by decide⟩ dX7_quarrel_30 ?_
      rintro r_ M1_ (⟨rfl, rfl, h_5⟩ | ⟨rfl, rfl, h_5⟩)
      · refine j_if_eq X 52 (by decide) dX7_quarrel_33 (fun c_6 => False.elim (by revert c_6; decide)) (fun c_6 => ?_)
        refine j_iload X 5 rfl dX7_quarrel_36 ?_
        refine j_iconst X (v := (-1)) (by decide) dX7_quarrel_38 ?_
        refine j_aload X 0 rfl dX7_quarrel_39 ?_
        refine j_getN X (by decide) (wE_0 _ rfl) rfl awF0 3 (by decide) (List.mem_of_getElem? (i := 15) rfl) rfl (v := .int (M 12 3)) rfl dX7_quarrel_41 ?_
        refine j_eqi (v := 0) hz.1 ?_
        refine j_iconst X (v := 1) (by decide) dX7_quarrel_44 ?_
        refine j_isub X dX7_quarrel_45 ?_
        refine j_eqi (v := (-1)) (by decide) ?_
        refine j_callSI X (nn := 3) (As := [.int o, .int (-1), .int (-1)]) (st := []) aw_110 (c_X7_isWithin l D y ad M o (-1) (-1) (-1) (-1) (by decide) (by decide)) aw_109 aw_111 aw_2 (by decide +kernel) ⟨by decide, by decide⟩ rfl (Nat.le_of_ble_eq_true rfl) ⟨by decide, by decide⟩ dX7_quarrel_46 ?_
        rintro r_ M1_ (⟨rfl, rfl, h_7⟩ | ⟨rfl, rfl, h_7⟩)
        · refine j_if_ne X 59 (by decide) dX7_quarrel_49 (fun c_8 => ?_) (fun c_8 => False.elim (by revert c_8; decide))
          refine j_aload X 0 rfl dX7_quarrel_59 ?_
          refine j_getN X (by decide) (wE_0 _ rfl) rfl awF0 3 (by decide) (List.mem_of_getElem? (i := 15) rfl) rfl (v := .int (M 12 3)) rfl dX7_quarrel_61 ?_
          refine j_eqi (v := 0) hz.1 ?_
          refine j_bipush X (v := 9) (by decide) dX7_quarrel_64 ?_
          refine j_icmp_lt X 76 (by decide) dX7_quarrel_66 (fun c_9 => ?_) (fun c_9 => False.elim (by revert c_9; decide))
          refine j_aload X 0 rfl dX7_quarrel_76 ?_
          refine j_getN X (by decide) (wE_0 _ rfl) rfl awF0 2 (by decide) (List.mem_of_getElem? (i := 14) rfl) rfl (v := .ref (ad 13)) rfl dX7_quarrel_78 ?_
          refine j_aload X 0 rfl dX7_quarrel_81 ?_
          refine j_getN X (by decide) (wE_0 _ rfl) rfl awF0 3 (by decide) (List.mem_of_getElem? (i := 15) rfl) rfl (v := .int (M 12 3)) rfl dX7_quarrel_83 ?_
          refine j_eqi (v := 0) hz.1 ?_
          refine j_aald10 X (by decide) rfl (by unfold vp_in; decide) dX7_quarrel_86 ?_
          refine j_eqr (v := 14) rfl ?_
          refine j_astore X [(6, .ref (ad 14)), (5, .ref (ad 12)), (0, .ref (ad 0)), (1, .int km), (2, .int a), (3, .int ed), (4, .int o)] (by decide) rfl dX7_quarrel_87 ?_
          refine j_aload X 0 rfl dX7_quarrel_89 ?_
          refine j_iload_n X 3 rfl rfl dX7_quarrel_91 ?_
          refine j_callVNV X (nn := 1) (As := [.int km]) (st := []) (ci := 1) (by decide) (wE_1 _ rfl) rfl aw_172 aw_173 (c_turnInto_14 l D y ad M km) (List.mem_of_getElem? (i := 12) rfl) aw_174 aw_65 (by decide +kernel) ⟨by decide, by decide⟩ rfl (Nat.le_of_ble_eq_true rfl) ⟨by decide, by decide⟩ dX7_quarrel_92 ?_
          rintro M_11 s_10
          refine j_aload X 0 rfl dX7_quarrel_95 ?_
          refine j_iload_n X 4 rfl rfl dX7_quarrel_97 ?_
          refine j_putN X (up M_11 14 2 a) up_o (by decide) (wE_1 _ rfl) rfl awF1 2 (by decide) (wP_1_2 _ _ rfl) tyX1 tyX1_ok nmX1 rfl (ty := .int) (by decide +kernel) rfl rfl (Nat.le_of_ble_eq_true rfl) (List.mem_of_getElem? (i := 4) rfl) rfl dX7_quarrel_98 ?_
          refine j_aload X 0 rfl dX7_quarrel_101 ?_
          refine j_iload_n X 5 rfl rfl dX7_quarrel_103 ?_
          refine j_putN X (up (up M_11 14 2 a) 14 3 ed) up_o (by decide) (wE_1 _ rfl) rfl awF1 3 (by decide) (wP_1_3 _ _ rfl) tyX1 tyX1_ok nmX1 rfl (ty := .int) (by decide +kernel) rfl rfl (Nat.le_of_ble_eq_true rfl) (List.mem_of_getElem? (i := 6) rfl) rfl dX7_quarrel_104 ?_
          refine j_aload X 0 rfl dX7_quarrel_107 ?_
          refine j_iload X 6 rfl dX7_quarrel_109 ?_
          refine j_putN X (up (up (up M_11 14 2 a) 14 3 ed) 14 4 o) up_o (by decide) (wE_1 _ rfl) rfl awF1 4 (by decide) (wP_1_4 _ _ rfl) tyX1 tyX1_ok nmX1 rfl (ty := .int) (by decide +kernel) rfl rfl (Nat.le_of_ble_eq_true rfl) (List.mem_of_getElem? (i := 8) rfl) rfl dX7_quarrel_111 ?_
          refine j_aload X 0 rfl dX7_quarrel_114 ?_
          refine j_iconst X (v := 0) (by decide) dX7_quarrel_116 ?_
          refine j_putN X (up (up (up (up M_11 14 2 a) 14 3 ed) 14 4 o) 14 6 0) up_o (by decide) (wE_1 _ rfl) rfl awF1 6 (by decide) (wP_1_6 _ _ rfl) tyX1 tyX1_ok nmX1 rfl (ty := .boolean) (by decide +kernel) rfl rfl (Nat.le_of_ble_eq_true rfl) (List.mem_of_getElem? (i := 12) rfl) rfl dX7_quarrel_117 ?_
          refine j_aload X 0 rfl dX7_quarrel_120 ?_
          refine j_iconst X (v := 0) (by decide) dX7_quarrel_122 ?_
          refine j_putN X (up (up (up (up (up M_11 14 2 a) 14 3 ed) 14 4 o) 14 6 0) 14 5 0) up_o (by decide) (wE_1 _ rfl) rfl awF1 5 (by decide) (wP_1_5 _ _ rfl) tyX1 tyX1_ok nmX1 rfl (ty := .int) (by decide +kernel) rfl rfl (Nat.le_of_ble_eq_true rfl) (List.mem_of_getElem? (i := 10) rfl) rfl dX7_quarrel_123 ?_
          refine j_aload X 1 rfl dX7_quarrel_126 ?_
          refine j_dup X rfl dX7_quarrel_128 ?_
          refine j_getN X (by decide) (wE_0 _ rfl) rfl awF0 3 (by decide) (List.mem_of_getElem? (i := 15) rfl) rfl (v := .int ((up (up (up (up (up M_11 14 2 a) 14 3 ed) 14 4 o) 14 6 0) 14 5 0) 12 3)) rfl dX7_quarrel_129 ?_
          refine j_eqi (v := 0) ((show _ = M_11 12 3 from by simp [up]).trans ((s_10 12 3 rfl).trans hz.1)) ?_
          refine j_iconst X (v := 1) (by decide) dX7_quarrel_132 ?_
          refine j_iadd X dX7_quarrel_133 ?_
          refine j_eqi (v := 1) (by decide) ?_
          refine j_putN X (up (up (up (up (up (up M_11 14 2 a) 14 3 ed) 14 4 o) 14 6 0) 14 5 0) 12 3 1) up_o (by decide) (wE_0 _ rfl) rfl awF0 3 (by decide) (wP_0_3 _ _ rfl) tyX0 tyX0_ok nmX0 rfl (ty := .int) (by decide +kernel) rfl rfl (Nat.le_of_ble_eq_true rfl) (List.mem_of_getElem? (i := 15) rfl) rfl dX7_quarrel_134 ?_
          refine j_aload X 1 rfl dX7_quarrel_137 ?_
          refine j_getN X (by decide) (wE_0 _ rfl) rfl awF0 3 (by decide) (List.mem_of_getElem? (i := 15) rfl) rfl (v := .int ((up (up (up (up (up (up M_11 14 2 a) 14 3 ed) 14 4 o) 14 6 0) 14 5 0) 12 3 1) 12 3)) rfl dX7_quarrel_139 ?_
          refine j_eqi (v := 1) (by simp [up]) ?_
          refine j_iconst X (v := 1) (by decide) dX7_quarrel_142 ?_
          refine j_isub X dX7_quarrel_143 ?_
          refine j_eqi (v := 0) (by decide) ?_
          exact j_iret X hr hlocks dX7_quarrel_144 ⟨(by unfold sp_quarrel; (repeat' split) <;> first | rfl | omega | (exfalso; omega)), (sm_up (sm_up (sm_up (sm_up (sm_up (sm_up (sm_tr sm_rf (sm_w s_10 (by intro b k hb; simp only [Bool.or_eq_false_iff, Bool.and_eq_false_iff, beq_eq_false_iff_ne, ne_eq, decide_eq_false_iff_not] at hb ⊢; omega))) rfl) rfl) rfl) rfl) rfl) rfl)⟩
        · refine j_if_ne X 59 (by decide) dX7_quarrel_49 (fun c_12 => False.elim (by revert c_12; decide)) (fun c_12 => ?_)
          refine j_aload_n X 1 rfl rfl dX7_quarrel_52 ?_
          refine j_ldc X (v := (-1000000001)) aw_108 dX7_quarrel_53 ?_
          refine j_callVI X (nn := 1) (As := [.int (-1000000001)]) (st := []) (ci := 7) (by decide) (wE_7 _ rfl) rfl aw_117 aw_118 (c_X7_refuse l D y ad M (-1000000001) 1 (by decide) (by decide)) aw_116 aw_119 aw_2 (by decide +kernel) ⟨by decide, by decide⟩ rfl (Nat.le_of_ble_eq_true rfl) ⟨by decide, by decide⟩ dX7_quarrel_55 ?_
          rintro r_ M1_ ⟨rfl, rfl⟩
          exact j_iret X hr hlocks dX7_quarrel_58 ⟨(by unfold sp_quarrel; (repeat' split) <;> first | rfl | omega | (exfalso; omega)), (sm_up sm_rf rfl)⟩
      · refine j_if_eq X 52 (by decide) dX7_quarrel_33 (fun c_13 => ?_) (fun c_13 => False.elim (by revert c_13; decide))
        refine j_aload_n X 1 rfl rfl dX7_quarrel_52 ?_
        refine j_ldc X (v := (-1000000001)) aw_108 dX7_quarrel_53 ?_
        refine j_callVI X (nn := 1) (As := [.int (-1000000001)]) (st := []) (ci := 7) (by decide) (wE_7 _ rfl) rfl aw_117 aw_118 (c_X7_refuse l D y ad M (-1000000001) 1 (by decide) (by decide)) aw_116 aw_119 aw_2 (by decide +kernel) ⟨by decide, by decide⟩ rfl (Nat.le_of_ble_eq_true rfl) ⟨by decide, by decide⟩ dX7_quarrel_55 ?_
        rintro r_ M1_ ⟨rfl, rfl⟩
        exact j_iret X hr hlocks dX7_quarrel_58 ⟨(by unfold sp_quarrel; (repeat' split) <;> first | rfl | omega | (exfalso; omega)), (sm_up sm_rf rfl)⟩
    · refine j_if_eq X 52 (by decide) dX7_quarrel_23 (fun c_14 => ?_) (fun c_14 => False.elim (by revert c_14; decide))
      refine j_aload_n X 1 rfl rfl dX7_quarrel_52 ?_
      refine j_ldc X (v := (-1000000001)) aw_108 dX7_quarrel_53 ?_
      refine j_callVI X (nn := 1) (As := [.int (-1000000001)]) (st := []) (ci := 7) (by decide) (wE_7 _ rfl) rfl aw_117 aw_118 (c_X7_refuse l D y ad M (-1000000001) 1 (by decide) (by decide)) aw_116 aw_119 aw_2 (by decide +kernel) ⟨by decide, by decide⟩ rfl (Nat.le_of_ble_eq_true rfl) ⟨by decide, by decide⟩ dX7_quarrel_55 ?_
      rintro r_ M1_ ⟨rfl, rfl⟩
      exact j_iret X hr hlocks dX7_quarrel_58 ⟨(by unfold sp_quarrel; (repeat' split) <;> first | rfl | omega | (exfalso; omega)), (sm_up sm_rf rfl)⟩
  · refine j_if_eq X 52 (by decide) dX7_quarrel_13 (fun c_15 => ?_) (fun c_15 => False.elim (by revert c_15; decide))
    refine j_aload_n X 1 rfl rfl dX7_quarrel_52 ?_
    refine j_ldc X (v := (-1000000001)) aw_108 dX7_quarrel_53 ?_
    refine j_callVI X (nn := 1) (As := [.int (-1000000001)]) (st := []) (ci := 7) (by decide) (wE_7 _ rfl) rfl aw_117 aw_118 (c_X7_refuse l D y ad M (-1000000001) 1 (by decide) (by decide)) aw_116 aw_119 aw_2 (by decide +kernel) ⟨by decide, by decide⟩ rfl (Nat.le_of_ble_eq_true rfl) ⟨by decide, by decide⟩ dX7_quarrel_55 ?_
    rintro r_ M1_ ⟨rfl, rfl⟩
    exact j_iret X hr hlocks dX7_quarrel_58 ⟨(by unfold sp_quarrel; (repeat' split) <;> first | rfl | omega | (exfalso; omega)), (sm_up sm_rf rfl)⟩
