theorem dX7_ended_0 : decode cX7_ended 0 = .ok (.iload_n 1, 1) := by decide +kernel
theorem dX7_ended_1 : decode cX7_ended 1 = .ok (.iconst 0, 1) := by decide +kernel
theorem dX7_ended_2 : decode cX7_ended 2 = .ok (.bipush 60, 2) := by decide +kernel
theorem dX7_ended_4 : decode cX7_ended 4 = .ok (.invokestatic 60, 3) := by decide +kernel
theorem dX7_ended_7 : decode cX7_ended 7 = .ok (.ifCond .ne 10, 3) := by decide +kernel
theorem dX7_ended_17 : decode cX7_ended 17 = .ok (.aload_n 0, 1) := by decide +kernel
theorem dX7_ended_18 : decode cX7_ended 18 = .ok (.invokevirtual 191, 3) := by decide +kernel
theorem dX7_ended_21 : decode cX7_ended 21 = .ok (.aload_n 0, 1) := by decide +kernel
theorem dX7_ended_22 : decode cX7_ended 22 = .ok (.iload_n 1, 1) := by decide +kernel
theorem dX7_ended_23 : decode cX7_ended 23 = .ok (.invokevirtual 194, 3) := by decide +kernel
theorem dX7_ended_26 : decode cX7_ended 26 = .ok (.aload_n 0, 1) := by decide +kernel
theorem dX7_ended_27 : decode cX7_ended 27 = .ok (.getfield 31, 3) := by decide +kernel
theorem dX7_ended_30 : decode cX7_ended 30 = .ok (.invokevirtual 198, 3) := by decide +kernel
theorem dX7_ended_33 : decode cX7_ended 33 = .ok (.ireturn, 1) := by decide +kernel
theorem dX7_ended_10 : decode cX7_ended 10 = .ok (.aload_n 0, 1) := by decide +kernel
theorem dX7_ended_11 : decode cX7_ended 11 = .ok (.ldc 68, 2) := by decide +kernel
theorem dX7_ended_13 : decode cX7_ended 13 = .ok (.invokevirtual 69, 3) := by decide +kernel
theorem dX7_ended_16 : decode cX7_ended 16 = .ok (.ireturn, 1) := by decide +kernel
theorem dX7_fee_0 : decode cX7_fee 0 = .ok (.iload_n 1, 1) := by decide +kernel
theorem dX7_fee_1 : decode cX7_fee 1 = .ok (.iconst 0, 1) := by decide +kernel
theorem dX7_fee_2 : decode cX7_fee 2 = .ok (.bipush 60, 2) := by decide +kernel
theorem dX7_fee_4 : decode cX7_fee 4 = .ok (.invokestatic 60, 3) := by decide +kernel
theorem dX7_fee_7 : decode cX7_fee 7 = .ok (.ifCond .ne 10, 3) := by decide +kernel
theorem dX7_fee_17 : decode cX7_fee 17 = .ok (.aload_n 0, 1) := by decide +kernel
theorem dX7_fee_18 : decode cX7_fee 18 = .ok (.invokevirtual 191, 3) := by decide +kernel
theorem dX7_fee_21 : decode cX7_fee 21 = .ok (.aload_n 0, 1) := by decide +kernel
theorem dX7_fee_22 : decode cX7_fee 22 = .ok (.iload_n 1, 1) := by decide +kernel
theorem dX7_fee_23 : decode cX7_fee 23 = .ok (.invokevirtual 194, 3) := by decide +kernel
theorem dX7_fee_26 : decode cX7_fee 26 = .ok (.aload_n 0, 1) := by decide +kernel
theorem dX7_fee_27 : decode cX7_fee 27 = .ok (.getfield 31, 3) := by decide +kernel
theorem dX7_fee_30 : decode cX7_fee 30 = .ok (.getfield 246, 3) := by decide +kernel
theorem dX7_fee_33 : decode cX7_fee 33 = .ok (.aload_n 0, 1) := by decide +kernel
theorem dX7_fee_34 : decode cX7_fee 34 = .ok (.getfield 12, 3) := by decide +kernel
theorem dX7_fee_37 : decode cX7_fee 37 = .ok (.getfield 72, 3) := by decide +kernel
theorem dX7_fee_40 : decode cX7_fee 40 = .ok (.getfield 246, 3) := by decide +kernel
theorem dX7_fee_43 : decode cX7_fee 43 = .ok (.isub, 1) := by decide +kernel
theorem dX7_fee_44 : decode cX7_fee 44 = .ok (.ireturn, 1) := by decide +kernel
theorem dX7_fee_10 : decode cX7_fee 10 = .ok (.aload_n 0, 1) := by decide +kernel
theorem dX7_fee_11 : decode cX7_fee 11 = .ok (.ldc 68, 2) := by decide +kernel
theorem dX7_fee_13 : decode cX7_fee 13 = .ok (.invokevirtual 69, 3) := by decide +kernel
theorem dX7_fee_16 : decode cX7_fee 16 = .ok (.ireturn, 1) := by decide +kernel
theorem dX7_start_0 : decode cX7_start 0 = .ok (.iload_n 1, 1) := by decide +kernel
theorem dX7_start_1 : decode cX7_start 1 = .ok (.iconst 0, 1) := by decide +kernel
theorem dX7_start_2 : decode cX7_start 2 = .ok (.bipush 60, 2) := by decide +kernel
theorem dX7_start_4 : decode cX7_start 4 = .ok (.invokestatic 60, 3) := by decide +kernel
theorem dX7_start_7 : decode cX7_start 7 = .ok (.ifCond .eq 12, 3) := by decide +kernel
theorem dX7_start_10 : decode cX7_start 10 = .ok (.iload_n 2, 1) := by decide +kernel
theorem dX7_start_11 : decode cX7_start 11 = .ok (.iconst 0, 1) := by decide +kernel
theorem dX7_start_12 : decode cX7_start 12 = .ok (.iconst 1, 1) := by decide +kernel
theorem dX7_start_13 : decode cX7_start 13 = .ok (.invokestatic 60, 3) := by decide +kernel
theorem dX7_start_16 : decode cX7_start 16 = .ok (.ifCond .ne 10, 3) := by decide +kernel
theorem dX7_start_26 : decode cX7_start 26 = .ok (.iconst 0, 1) := by decide +kernel
theorem dX7_start_27 : decode cX7_start 27 = .ok (.istore_n 3, 1) := by decide +kernel
theorem dX7_start_28 : decode cX7_start 28 = .ok (.iconst (-1), 1) := by decide +kernel
theorem dX7_start_29 : decode cX7_start 29 = .ok (.istore 4, 2) := by decide +kernel
theorem dX7_start_31 : decode cX7_start 31 = .ok (.iconst 0, 1) := by decide +kernel
theorem dX7_start_32 : decode cX7_start 32 = .ok (.istore 5, 2) := by decide +kernel
theorem dX7_start_34 : decode cX7_start 34 = .ok (.iload 5, 2) := by decide +kernel
theorem dX7_start_36 : decode cX7_start 36 = .ok (.bipush 10, 2) := by decide +kernel
theorem dX7_start_38 : decode cX7_start 38 = .ok (.if_icmp .ge 51, 3) := by decide +kernel
theorem dX7_start_89 : decode cX7_start 89 = .ok (.iload_n 2, 1) := by decide +kernel
theorem dX7_start_90 : decode cX7_start 90 = .ok (.ifCond .ne 7, 3) := by decide +kernel
theorem dX7_start_97 : decode cX7_start 97 = .ok (.iload 4, 2) := by decide +kernel
theorem dX7_start_99 : decode cX7_start 99 = .ok (.ireturn, 1) := by decide +kernel
theorem dX7_start_93 : decode cX7_start 93 = .ok (.iload_n 3, 1) := by decide +kernel
theorem dX7_start_94 : decode cX7_start 94 = .ok (.goto 5, 3) := by decide +kernel
theorem dX7_start_41 : decode cX7_start 41 = .ok (.aload_n 0, 1) := by decide +kernel
theorem dX7_start_42 : decode cX7_start 42 = .ok (.invokevirtual 191, 3) := by decide +kernel
theorem dX7_start_45 : decode cX7_start 45 = .ok (.aload_n 0, 1) := by decide +kernel
theorem dX7_start_46 : decode cX7_start 46 = .ok (.getfield 31, 3) := by decide +kernel
theorem dX7_start_49 : decode cX7_start 49 = .ok (.iload 5, 2) := by decide +kernel
theorem dX7_start_51 : decode cX7_start 51 = .ok (.putfield 201, 3) := by decide +kernel
theorem dX7_start_54 : decode cX7_start 54 = .ok (.aload_n 0, 1) := by decide +kernel
theorem dX7_start_55 : decode cX7_start 55 = .ok (.iload_n 1, 1) := by decide +kernel
theorem dX7_start_56 : decode cX7_start 56 = .ok (.invokevirtual 194, 3) := by decide +kernel
theorem dX7_start_59 : decode cX7_start 59 = .ok (.aload_n 0, 1) := by decide +kernel
theorem dX7_start_60 : decode cX7_start 60 = .ok (.getfield 31, 3) := by decide +kernel
theorem dX7_start_63 : decode cX7_start 63 = .ok (.invokevirtual 182, 3) := by decide +kernel
theorem dX7_start_66 : decode cX7_start 66 = .ok (.iload 4, 2) := by decide +kernel
theorem dX7_start_68 : decode cX7_start 68 = .ok (.if_icmp .le 15, 3) := by decide +kernel
theorem dX7_start_83 : decode cX7_start 83 = .ok (.iinc 5 1, 3) := by decide +kernel
theorem dX7_start_86 : decode cX7_start 86 = .ok (.goto (-52), 3) := by decide +kernel
theorem dX7_start_71 : decode cX7_start 71 = .ok (.iload 5, 2) := by decide +kernel
theorem dX7_start_73 : decode cX7_start 73 = .ok (.istore_n 3, 1) := by decide +kernel
theorem dX7_start_74 : decode cX7_start 74 = .ok (.aload_n 0, 1) := by decide +kernel
theorem dX7_start_75 : decode cX7_start 75 = .ok (.getfield 31, 3) := by decide +kernel
theorem dX7_start_78 : decode cX7_start 78 = .ok (.invokevirtual 182, 3) := by decide +kernel
theorem dX7_start_81 : decode cX7_start 81 = .ok (.istore 4, 2) := by decide +kernel
theorem dX7_start_19 : decode cX7_start 19 = .ok (.aload_n 0, 1) := by decide +kernel
theorem dX7_start_20 : decode cX7_start 20 = .ok (.ldc 68, 2) := by decide +kernel
theorem dX7_start_22 : decode cX7_start 22 = .ok (.invokevirtual 69, 3) := by decide +kernel
theorem dX7_start_25 : decode cX7_start 25 = .ok (.ireturn, 1) := by decide +kernel
theorem dX7_pace_0 : decode cX7_pace 0 = .ok (.iload_n 1, 1) := by decide +kernel
theorem dX7_pace_1 : decode cX7_pace 1 = .ok (.iconst 0, 1) := by decide +kernel
theorem dX7_pace_2 : decode cX7_pace 2 = .ok (.bipush 60, 2) := by decide +kernel
theorem dX7_pace_4 : decode cX7_pace 4 = .ok (.invokestatic 60, 3) := by decide +kernel
theorem dX7_pace_7 : decode cX7_pace 7 = .ok (.ifCond .eq 12, 3) := by decide +kernel
theorem dX7_pace_10 : decode cX7_pace 10 = .ok (.iload_n 2, 1) := by decide +kernel
theorem dX7_pace_11 : decode cX7_pace 11 = .ok (.iconst 0, 1) := by decide +kernel
theorem dX7_pace_12 : decode cX7_pace 12 = .ok (.iconst 1, 1) := by decide +kernel
theorem dX7_pace_13 : decode cX7_pace 13 = .ok (.invokestatic 60, 3) := by decide +kernel
theorem dX7_pace_16 : decode cX7_pace 16 = .ok (.ifCond .ne 10, 3) := by decide +kernel
theorem dX7_pace_26 : decode cX7_pace 26 = .ok (.iconst 0, 1) := by decide +kernel
theorem dX7_pace_27 : decode cX7_pace 27 = .ok (.istore_n 3, 1) := by decide +kernel
theorem dX7_pace_28 : decode cX7_pace 28 = .ok (.iconst (-1), 1) := by decide +kernel
theorem dX7_pace_29 : decode cX7_pace 29 = .ok (.istore 4, 2) := by decide +kernel
theorem dX7_pace_31 : decode cX7_pace 31 = .ok (.iconst 0, 1) := by decide +kernel
theorem dX7_pace_32 : decode cX7_pace 32 = .ok (.istore 5, 2) := by decide +kernel
theorem dX7_pace_34 : decode cX7_pace 34 = .ok (.iload 5, 2) := by decide +kernel
theorem dX7_pace_36 : decode cX7_pace 36 = .ok (.bipush 10, 2) := by decide +kernel
theorem dX7_pace_38 : decode cX7_pace 38 = .ok (.if_icmp .ge 51, 3) := by decide +kernel
theorem dX7_pace_89 : decode cX7_pace 89 = .ok (.iload_n 2, 1) := by decide +kernel
theorem dX7_pace_90 : decode cX7_pace 90 = .ok (.ifCond .ne 7, 3) := by decide +kernel
theorem dX7_pace_97 : decode cX7_pace 97 = .ok (.iload 4, 2) := by decide +kernel
theorem dX7_pace_99 : decode cX7_pace 99 = .ok (.ireturn, 1) := by decide +kernel
theorem dX7_pace_93 : decode cX7_pace 93 = .ok (.iload_n 3, 1) := by decide +kernel
theorem dX7_pace_94 : decode cX7_pace 94 = .ok (.goto 5, 3) := by decide +kernel
theorem dX7_pace_41 : decode cX7_pace 41 = .ok (.aload_n 0, 1) := by decide +kernel
theorem dX7_pace_42 : decode cX7_pace 42 = .ok (.invokevirtual 191, 3) := by decide +kernel
theorem dX7_pace_45 : decode cX7_pace 45 = .ok (.aload_n 0, 1) := by decide +kernel
theorem dX7_pace_46 : decode cX7_pace 46 = .ok (.getfield 31, 3) := by decide +kernel
theorem dX7_pace_49 : decode cX7_pace 49 = .ok (.iload 5, 2) := by decide +kernel
theorem dX7_pace_51 : decode cX7_pace 51 = .ok (.putfield 188, 3) := by decide +kernel
theorem dX7_pace_54 : decode cX7_pace 54 = .ok (.aload_n 0, 1) := by decide +kernel
theorem dX7_pace_55 : decode cX7_pace 55 = .ok (.iload_n 1, 1) := by decide +kernel
theorem dX7_pace_56 : decode cX7_pace 56 = .ok (.invokevirtual 194, 3) := by decide +kernel
theorem dX7_pace_59 : decode cX7_pace 59 = .ok (.aload_n 0, 1) := by decide +kernel
theorem dX7_pace_60 : decode cX7_pace 60 = .ok (.getfield 31, 3) := by decide +kernel
theorem dX7_pace_63 : decode cX7_pace 63 = .ok (.invokevirtual 182, 3) := by decide +kernel
theorem dX7_pace_66 : decode cX7_pace 66 = .ok (.iload 4, 2) := by decide +kernel
theorem dX7_pace_68 : decode cX7_pace 68 = .ok (.if_icmp .le 15, 3) := by decide +kernel
theorem dX7_pace_83 : decode cX7_pace 83 = .ok (.iinc 5 1, 3) := by decide +kernel
theorem dX7_pace_86 : decode cX7_pace 86 = .ok (.goto (-52), 3) := by decide +kernel
theorem dX7_pace_71 : decode cX7_pace 71 = .ok (.iload 5, 2) := by decide +kernel
theorem dX7_pace_73 : decode cX7_pace 73 = .ok (.istore_n 3, 1) := by decide +kernel
theorem dX7_pace_74 : decode cX7_pace 74 = .ok (.aload_n 0, 1) := by decide +kernel
theorem dX7_pace_75 : decode cX7_pace 75 = .ok (.getfield 31, 3) := by decide +kernel
theorem dX7_pace_78 : decode cX7_pace 78 = .ok (.invokevirtual 182, 3) := by decide +kernel
theorem dX7_pace_81 : decode cX7_pace 81 = .ok (.istore 4, 2) := by decide +kernel
theorem dX7_pace_19 : decode cX7_pace 19 = .ok (.aload_n 0, 1) := by decide +kernel
theorem dX7_pace_20 : decode cX7_pace 20 = .ok (.ldc 68, 2) := by decide +kernel
theorem dX7_pace_22 : decode cX7_pace 22 = .ok (.invokevirtual 69, 3) := by decide +kernel
theorem dX7_pace_25 : decode cX7_pace 25 = .ok (.ireturn, 1) := by decide +kernel
theorem dX7_last_0 : decode cX7_last 0 = .ok (.iload_n 1, 1) := by decide +kernel
theorem dX7_last_1 : decode cX7_last 1 = .ok (.iconst 0, 1) := by decide +kernel
theorem dX7_last_2 : decode cX7_last 2 = .ok (.iconst 1, 1) := by decide +kernel
theorem dX7_last_3 : decode cX7_last 3 = .ok (.invokestatic 60, 3) := by decide +kernel
theorem dX7_last_6 : decode cX7_last 6 = .ok (.ifCond .ne 10, 3) := by decide +kernel
theorem dX7_last_16 : decode cX7_last 16 = .ok (.aload_n 0, 1) := by decide +kernel
theorem dX7_last_17 : decode cX7_last 17 = .ok (.invokevirtual 191, 3) := by decide +kernel
theorem dX7_last_20 : decode cX7_last 20 = .ok (.iconst (-1), 1) := by decide +kernel
theorem dX7_last_21 : decode cX7_last 21 = .ok (.istore_n 2, 1) := by decide +kernel
theorem dX7_last_22 : decode cX7_last 22 = .ok (.iconst 0, 1) := by decide +kernel
theorem dX7_last_23 : decode cX7_last 23 = .ok (.istore_n 3, 1) := by decide +kernel
theorem dX7_last_24 : decode cX7_last 24 = .ok (.iconst 1, 1) := by decide +kernel
theorem dX7_last_25 : decode cX7_last 25 = .ok (.istore 4, 2) := by decide +kernel
theorem dX7_last_27 : decode cX7_last 27 = .ok (.iload 4, 2) := by decide +kernel
theorem dX7_last_29 : decode cX7_last 29 = .ok (.bipush 60, 2) := by decide +kernel
theorem dX7_last_31 : decode cX7_last 31 = .ok (.if_icmp .gt 54, 3) := by decide +kernel
theorem dX7_last_85 : decode cX7_last 85 = .ok (.iload_n 2, 1) := by decide +kernel
theorem dX7_last_86 : decode cX7_last 86 = .ok (.ifCond .ge 10, 3) := by decide +kernel
theorem dX7_last_96 : decode cX7_last 96 = .ok (.iload_n 1, 1) := by decide +kernel
theorem dX7_last_97 : decode cX7_last 97 = .ok (.ifCond .ne 7, 3) := by decide +kernel
theorem dX7_last_104 : decode cX7_last 104 = .ok (.iload_n 3, 1) := by decide +kernel
theorem dX7_last_105 : decode cX7_last 105 = .ok (.ireturn, 1) := by decide +kernel
theorem dX7_last_100 : decode cX7_last 100 = .ok (.iload_n 2, 1) := by decide +kernel
theorem dX7_last_101 : decode cX7_last 101 = .ok (.goto 4, 3) := by decide +kernel
theorem dX7_last_89 : decode cX7_last 89 = .ok (.aload_n 0, 1) := by decide +kernel
theorem dX7_last_90 : decode cX7_last 90 = .ok (.ldc 197, 2) := by decide +kernel
theorem dX7_last_92 : decode cX7_last 92 = .ok (.invokevirtual 69, 3) := by decide +kernel
theorem dX7_last_95 : decode cX7_last 95 = .ok (.ireturn, 1) := by decide +kernel
theorem dX7_last_34 : decode cX7_last 34 = .ok (.aload_n 0, 1) := by decide +kernel
theorem dX7_last_35 : decode cX7_last 35 = .ok (.getfield 31, 3) := by decide +kernel
theorem dX7_last_38 : decode cX7_last 38 = .ok (.invokevirtual 198, 3) := by decide +kernel
theorem dX7_last_41 : decode cX7_last 41 = .ok (.istore 5, 2) := by decide +kernel
theorem dX7_last_43 : decode cX7_last 43 = .ok (.aload_n 0, 1) := by decide +kernel
theorem dX7_last_44 : decode cX7_last 44 = .ok (.getfield 31, 3) := by decide +kernel
theorem dX7_last_47 : decode cX7_last 47 = .ok (.iconst 0, 1) := by decide +kernel
theorem dX7_last_48 : decode cX7_last 48 = .ok (.invokevirtual 178, 3) := by decide +kernel
theorem dX7_last_51 : decode cX7_last 51 = .ok (.aload_n 0, 1) := by decide +kernel
theorem dX7_last_52 : decode cX7_last 52 = .ok (.getfield 31, 3) := by decide +kernel
theorem dX7_last_55 : decode cX7_last 55 = .ok (.invokevirtual 198, 3) := by decide +kernel
theorem dX7_last_58 : decode cX7_last 58 = .ok (.iload 5, 2) := by decide +kernel
theorem dX7_last_60 : decode cX7_last 60 = .ok (.iconst (-1), 1) := by decide +kernel
theorem dX7_last_61 : decode cX7_last 61 = .ok (.ixor, 1) := by decide +kernel
theorem dX7_last_62 : decode cX7_last 62 = .ok (.iand, 1) := by decide +kernel
theorem dX7_last_63 : decode cX7_last 63 = .ok (.istore 6, 2) := by decide +kernel
theorem dX7_last_65 : decode cX7_last 65 = .ok (.iload 6, 2) := by decide +kernel
theorem dX7_last_67 : decode cX7_last 67 = .ok (.ifCond .eq 12, 3) := by decide +kernel
theorem dX7_last_79 : decode cX7_last 79 = .ok (.iinc 4 1, 3) := by decide +kernel
theorem dX7_last_82 : decode cX7_last 82 = .ok (.goto (-55), 3) := by decide +kernel
theorem dX7_last_70 : decode cX7_last 70 = .ok (.iload 6, 2) := by decide +kernel
theorem dX7_last_72 : decode cX7_last 72 = .ok (.invokestatic 237, 3) := by decide +kernel
theorem dX7_last_75 : decode cX7_last 75 = .ok (.istore_n 2, 1) := by decide +kernel
theorem dX7_last_76 : decode cX7_last 76 = .ok (.iload 4, 2) := by decide +kernel
theorem dX7_last_78 : decode cX7_last 78 = .ok (.istore_n 3, 1) := by decide +kernel
theorem dX7_last_9 : decode cX7_last 9 = .ok (.aload_n 0, 1) := by decide +kernel
theorem dX7_last_10 : decode cX7_last 10 = .ok (.ldc 68, 2) := by decide +kernel
theorem dX7_last_12 : decode cX7_last 12 = .ok (.invokevirtual 69, 3) := by decide +kernel
theorem dX7_last_15 : decode cX7_last 15 = .ok (.ireturn, 1) := by decide +kernel
theorem dX7_then_0 : decode cX7_then 0 = .ok (.iload_n 1, 1) := by decide +kernel
theorem dX7_then_1 : decode cX7_then 1 = .ok (.iconst 0, 1) := by decide +kernel
theorem dX7_then_2 : decode cX7_then 2 = .ok (.bipush 60, 2) := by decide +kernel
theorem dX7_then_4 : decode cX7_then 4 = .ok (.invokestatic 60, 3) := by decide +kernel
theorem dX7_then_7 : decode cX7_then 7 = .ok (.ifCond .eq 20, 3) := by decide +kernel
theorem dX7_then_10 : decode cX7_then 10 = .ok (.aload_n 0, 1) := by decide +kernel
theorem dX7_then_11 : decode cX7_then 11 = .ok (.iload_n 2, 1) := by decide +kernel
theorem dX7_then_12 : decode cX7_then 12 = .ok (.invokevirtual 117, 3) := by decide +kernel
theorem dX7_then_15 : decode cX7_then 15 = .ok (.ifCond .eq 12, 3) := by decide +kernel
theorem dX7_then_18 : decode cX7_then 18 = .ok (.iload_n 3, 1) := by decide +kernel
theorem dX7_then_19 : decode cX7_then 19 = .ok (.iconst 0, 1) := by decide +kernel
theorem dX7_then_20 : decode cX7_then 20 = .ok (.iconst 2, 1) := by decide +kernel
theorem dX7_then_21 : decode cX7_then 21 = .ok (.invokestatic 60, 3) := by decide +kernel
theorem dX7_then_24 : decode cX7_then 24 = .ok (.ifCond .ne 10, 3) := by decide +kernel
theorem dX7_then_34 : decode cX7_then 34 = .ok (.aload_n 0, 1) := by decide +kernel
theorem dX7_then_35 : decode cX7_then 35 = .ok (.invokevirtual 191, 3) := by decide +kernel
theorem dX7_then_38 : decode cX7_then 38 = .ok (.aload_n 0, 1) := by decide +kernel
theorem dX7_then_39 : decode cX7_then 39 = .ok (.iload_n 1, 1) := by decide +kernel
theorem dX7_then_40 : decode cX7_then 40 = .ok (.invokevirtual 194, 3) := by decide +kernel
theorem dX7_then_43 : decode cX7_then 43 = .ok (.aload_n 0, 1) := by decide +kernel
theorem dX7_then_44 : decode cX7_then 44 = .ok (.getfield 31, 3) := by decide +kernel
theorem dX7_then_47 : decode cX7_then 47 = .ok (.getfield 91, 3) := by decide +kernel
theorem dX7_then_50 : decode cX7_then 50 = .ok (.iload_n 2, 1) := by decide +kernel
theorem dX7_then_51 : decode cX7_then 51 = .ok (.aaload, 1) := by decide +kernel
theorem dX7_then_52 : decode cX7_then 52 = .ok (.astore 4, 2) := by decide +kernel
theorem dX7_then_54 : decode cX7_then 54 = .ok (.iload_n 3, 1) := by decide +kernel
theorem dX7_then_55 : decode cX7_then 55 = .ok (.lookupswitch 45 #[(0, 25), (1, 31)], 25) := by decide +kernel
theorem dX7_then_80 : decode cX7_then 80 = .ok (.aload 4, 2) := by decide +kernel
theorem dX7_then_82 : decode cX7_then 82 = .ok (.getfield 104, 3) := by decide +kernel
theorem dX7_then_85 : decode cX7_then 85 = .ok (.ireturn, 1) := by decide +kernel
theorem dX7_then_86 : decode cX7_then 86 = .ok (.aload 4, 2) := by decide +kernel
theorem dX7_then_88 : decode cX7_then 88 = .ok (.getfield 110, 3) := by decide +kernel
theorem dX7_then_91 : decode cX7_then 91 = .ok (.ifCond .eq 7, 3) := by decide +kernel
theorem dX7_then_98 : decode cX7_then 98 = .ok (.iconst 0, 1) := by decide +kernel
theorem dX7_then_99 : decode cX7_then 99 = .ok (.ireturn, 1) := by decide +kernel
theorem dX7_then_94 : decode cX7_then 94 = .ok (.iconst 1, 1) := by decide +kernel
theorem dX7_then_95 : decode cX7_then 95 = .ok (.goto 4, 3) := by decide +kernel
theorem dX7_then_100 : decode cX7_then 100 = .ok (.aload 4, 2) := by decide +kernel
theorem dX7_then_102 : decode cX7_then 102 = .ok (.getfield 114, 3) := by decide +kernel
theorem dX7_then_105 : decode cX7_then 105 = .ok (.ireturn, 1) := by decide +kernel
theorem dX7_then_27 : decode cX7_then 27 = .ok (.aload_n 0, 1) := by decide +kernel
theorem dX7_then_28 : decode cX7_then 28 = .ok (.ldc 68, 2) := by decide +kernel
theorem dX7_then_30 : decode cX7_then 30 = .ok (.invokevirtual 69, 3) := by decide +kernel
theorem dX7_then_33 : decode cX7_then 33 = .ok (.ireturn, 1) := by decide +kernel
theorem dX7_when_0 : decode cX7_when 0 = .ok (.aload_n 0, 1) := by decide +kernel
theorem dX7_when_1 : decode cX7_when 1 = .ok (.iload_n 1, 1) := by decide +kernel
theorem dX7_when_2 : decode cX7_when 2 = .ok (.invokevirtual 117, 3) := by decide +kernel
theorem dX7_when_5 : decode cX7_when 5 = .ok (.ifCond .ne 10, 3) := by decide +kernel
theorem dX7_when_15 : decode cX7_when 15 = .ok (.aload_n 0, 1) := by decide +kernel
theorem dX7_when_16 : decode cX7_when 16 = .ok (.invokevirtual 191, 3) := by decide +kernel
theorem dX7_when_19 : decode cX7_when 19 = .ok (.iconst 0, 1) := by decide +kernel
theorem dX7_when_20 : decode cX7_when 20 = .ok (.istore_n 2, 1) := by decide +kernel
theorem dX7_when_21 : decode cX7_when 21 = .ok (.iload_n 2, 1) := by decide +kernel
theorem dX7_when_22 : decode cX7_when 22 = .ok (.bipush 60, 2) := by decide +kernel
theorem dX7_when_24 : decode cX7_when 24 = .ok (.if_icmp .gt 34, 3) := by decide +kernel
theorem dX7_when_58 : decode cX7_when 58 = .ok (.aload_n 0, 1) := by decide +kernel
theorem dX7_when_59 : decode cX7_when 59 = .ok (.ldc 197, 2) := by decide +kernel
theorem dX7_when_61 : decode cX7_when 61 = .ok (.invokevirtual 69, 3) := by decide +kernel
theorem dX7_when_64 : decode cX7_when 64 = .ok (.ireturn, 1) := by decide +kernel
theorem dX7_when_27 : decode cX7_when 27 = .ok (.aload_n 0, 1) := by decide +kernel
theorem dX7_when_28 : decode cX7_when 28 = .ok (.getfield 31, 3) := by decide +kernel
theorem dX7_when_31 : decode cX7_when 31 = .ok (.getfield 91, 3) := by decide +kernel
theorem dX7_when_34 : decode cX7_when 34 = .ok (.iload_n 1, 1) := by decide +kernel
theorem dX7_when_35 : decode cX7_when 35 = .ok (.aaload, 1) := by decide +kernel
theorem dX7_when_36 : decode cX7_when 36 = .ok (.getfield 110, 3) := by decide +kernel
theorem dX7_when_39 : decode cX7_when 39 = .ok (.ifCond .eq 5, 3) := by decide +kernel
theorem dX7_when_44 : decode cX7_when 44 = .ok (.aload_n 0, 1) := by decide +kernel
theorem dX7_when_45 : decode cX7_when 45 = .ok (.getfield 31, 3) := by decide +kernel
theorem dX7_when_48 : decode cX7_when 48 = .ok (.iconst 0, 1) := by decide +kernel
theorem dX7_when_49 : decode cX7_when 49 = .ok (.invokevirtual 178, 3) := by decide +kernel
theorem dX7_when_52 : decode cX7_when 52 = .ok (.iinc 2 1, 3) := by decide +kernel
theorem dX7_when_55 : decode cX7_when 55 = .ok (.goto (-34), 3) := by decide +kernel
theorem dX7_when_42 : decode cX7_when 42 = .ok (.iload_n 2, 1) := by decide +kernel
theorem dX7_when_43 : decode cX7_when 43 = .ok (.ireturn, 1) := by decide +kernel
theorem dX7_when_8 : decode cX7_when 8 = .ok (.aload_n 0, 1) := by decide +kernel
theorem dX7_when_9 : decode cX7_when 9 = .ok (.ldc 68, 2) := by decide +kernel
theorem dX7_when_11 : decode cX7_when 11 = .ok (.invokevirtual 69, 3) := by decide +kernel
theorem dX7_when_14 : decode cX7_when 14 = .ok (.ireturn, 1) := by decide +kernel
theorem dX7_off_0 : decode cX7_off 0 = .ok (.iload_n 1, 1) := by decide +kernel
theorem dX7_off_1 : decode cX7_off 1 = .ok (.iconst 0, 1) := by decide +kernel
theorem dX7_off_2 : decode cX7_off 2 = .ok (.bipush 60, 2) := by decide +kernel
theorem dX7_off_4 : decode cX7_off 4 = .ok (.invokestatic 60, 3) := by decide +kernel
theorem dX7_off_7 : decode cX7_off 7 = .ok (.ifCond .ne 10, 3) := by decide +kernel
theorem dX7_off_17 : decode cX7_off 17 = .ok (.aload_n 0, 1) := by decide +kernel
theorem dX7_off_18 : decode cX7_off 18 = .ok (.invokevirtual 191, 3) := by decide +kernel
theorem dX7_off_21 : decode cX7_off 21 = .ok (.aload_n 0, 1) := by decide +kernel
theorem dX7_off_22 : decode cX7_off 22 = .ok (.iload_n 1, 1) := by decide +kernel
theorem dX7_off_23 : decode cX7_off 23 = .ok (.invokevirtual 219, 3) := by decide +kernel
theorem dX7_off_26 : decode cX7_off 26 = .ok (.aload_n 0, 1) := by decide +kernel
theorem dX7_off_27 : decode cX7_off 27 = .ok (.getfield 31, 3) := by decide +kernel
theorem dX7_off_30 : decode cX7_off 30 = .ok (.getfield 222, 3) := by decide +kernel
theorem dX7_off_33 : decode cX7_off 33 = .ok (.istore_n 2, 1) := by decide +kernel
theorem dX7_off_34 : decode cX7_off 34 = .ok (.aload_n 0, 1) := by decide +kernel
theorem dX7_off_35 : decode cX7_off 35 = .ok (.invokevirtual 191, 3) := by decide +kernel
theorem dX7_off_38 : decode cX7_off 38 = .ok (.iload_n 1, 1) := by decide +kernel
theorem dX7_off_39 : decode cX7_off 39 = .ok (.ifCond .le 18, 3) := by decide +kernel
theorem dX7_off_57 : decode cX7_off 57 = .ok (.aload_n 0, 1) := by decide +kernel
theorem dX7_off_58 : decode cX7_off 58 = .ok (.getfield 31, 3) := by decide +kernel
theorem dX7_off_61 : decode cX7_off 61 = .ok (.getfield 222, 3) := by decide +kernel
theorem dX7_off_64 : decode cX7_off 64 = .ok (.iload_n 2, 1) := by decide +kernel
theorem dX7_off_65 : decode cX7_off 65 = .ok (.isub, 1) := by decide +kernel
theorem dX7_off_66 : decode cX7_off 66 = .ok (.ireturn, 1) := by decide +kernel
theorem dX7_off_42 : decode cX7_off 42 = .ok (.aload_n 0, 1) := by decide +kernel
theorem dX7_off_43 : decode cX7_off 43 = .ok (.getfield 31, 3) := by decide +kernel
theorem dX7_off_46 : decode cX7_off 46 = .ok (.iconst 1, 1) := by decide +kernel
theorem dX7_off_47 : decode cX7_off 47 = .ok (.invokevirtual 240, 3) := by decide +kernel
theorem dX7_off_50 : decode cX7_off 50 = .ok (.aload_n 0, 1) := by decide +kernel
theorem dX7_off_51 : decode cX7_off 51 = .ok (.iload_n 1, 1) := by decide +kernel
theorem dX7_off_52 : decode cX7_off 52 = .ok (.iconst 1, 1) := by decide +kernel
theorem dX7_off_53 : decode cX7_off 53 = .ok (.isub, 1) := by decide +kernel
theorem dX7_off_54 : decode cX7_off 54 = .ok (.invokevirtual 219, 3) := by decide +kernel
theorem dX7_off_10 : decode cX7_off 10 = .ok (.aload_n 0, 1) := by decide +kernel
theorem dX7_off_11 : decode cX7_off 11 = .ok (.ldc 68, 2) := by decide +kernel
theorem dX7_off_13 : decode cX7_off 13 = .ok (.invokevirtual 69, 3) := by decide +kernel
theorem dX7_off_16 : decode cX7_off 16 = .ok (.ireturn, 1) := by decide +kernel
set_option maxRecDepth 100000 in
set_option maxHeartbeats 4000000 in
theorem g_X7_ended (l : Launch) (D : va_G) (y : wY) (ad : Nat → Nat) (M : Mem) (n : Nat) (hn : n ≤ 9) (hm : M 12 3 = nI n) (hB : ∀ q, q < 9 → BoolOK (M (14 + q) 6)) (z2 z7 : Nat) (hT2 : TextOK M 2 z2) (hT7 : TextOK M 7 z7) (nn : Int32) : MI l D y ad yX7_ended (Cond.code yX7_ended cX7_ended 2 (some .int)) 9 M [.ref (ad 0), .int nn] (fun _ M' => sm (fun b _ => b == 6 || b == 11 || b == 78 || (decide (49 ≤ b) && decide (b ≤ 59))) M M') := by
  refine MI_of (by decide) (Nat.le_of_ble_eq_true rfl) ?_
  intro p e s m args below meth c X hr hlocks
  refine j_lv (lv1 := [(0, .ref (ad 0)), (1, .int nn)]) [0, 1] rfl ?_
  refine j_iload_n X 1 rfl rfl dX7_ended_0 ?_
  refine j_iconst X (v := 0) (by decide) dX7_ended_1 ?_
  refine j_bipush X (v := 60) (by decide) dX7_ended_2 ?_
  refine j_callSI X (nn := 3) (As := [.int nn, .int 0, .int 60]) (st := []) aw_110 (g_X7_isWithin l D y ad M nn 0 60 0 60 (by decide) (by decide)) aw_109 aw_111 aw_2 (by decide +kernel) ⟨by decide, by decide⟩ rfl (Nat.le_of_ble_eq_true rfl) ⟨by decide, by decide⟩ dX7_ended_4 ?_
  rintro r_ M1_ (⟨rfl, rfl, h_1⟩ | ⟨rfl, rfl, h_1⟩)
  · refine j_if_ne X 17 (by decide) dX7_ended_7 (fun c_2 => ?_) (fun c_2 => False.elim (by revert c_2; decide))
    obtain ⟨N, hN, rfl⟩ := nI_oft (x := nn) (n := 60) (by omega) (by omega) (by decide)
    refine j_aload_n X 0 rfl rfl dX7_ended_17 ?_
    refine j_callVV X (nn := 0) (As := []) (st := []) (ci := 7) (by decide) (wE_7 _ rfl) rfl aw_534 aw_535 (g_think l D y ad M n (by omega) hm hB) aw_533 aw_536 aw_2 (by decide +kernel) ⟨by decide, by decide⟩ rfl (Nat.le_of_ble_eq_true rfl) ⟨by decide, by decide⟩ dX7_ended_18 ?_
    rintro M_4 ⟨s_3, s_3_g, s_3_b⟩
    refine j_aload_n X 0 rfl rfl dX7_ended_21 ?_
    refine j_iload_n X 1 rfl rfl dX7_ended_22 ?_
    refine j_callVV X (nn := 1) (As := [.int (nI N)]) (st := []) (ci := 7) (by decide) (wE_7 _ rfl) rfl aw_545 aw_546 (g_thinkDays l D y ad M_4 n (by omega) ((s_3_g 3 (by decide) (by decide)).trans hm) z2 z7 (TextOK_keep (P := (fun b _ => b == 6 || b == 11 || b == 78 || (decide (49 ≤ b) && decide (b ≤ 59)))) (sm_tr sm_rf (sm_w s_3 (by intro b k hb; first | rfl | exact hb | (simp only [Bool.or_eq_false_iff, Bool.and_eq_false_iff, beq_eq_false_iff_ne, ne_eq, decide_eq_false_iff_not] at hb ⊢; omega)))) (fun _ => rfl) (fun _ => rfl) (fun _ => rfl) (fun _ => rfl) hT2) (TextOK_keep (P := (fun b _ => b == 6 || b == 11 || b == 78 || (decide (49 ≤ b) && decide (b ≤ 59)))) (sm_tr sm_rf (sm_w s_3 (by intro b k hb; first | rfl | exact hb | (simp only [Bool.or_eq_false_iff, Bool.and_eq_false_iff, beq_eq_false_iff_ne, ne_eq, decide_eq_false_iff_not] at hb ⊢; omega)))) (fun _ => rfl) (fun _ => rfl) (fun _ => rfl) (fun _ => rfl) hT7) N (by omega)) aw_544 aw_547 aw_2 (by decide +kernel) ⟨by decide, by decide⟩ rfl (Nat.le_of_ble_eq_true rfl) ⟨by decide, by decide⟩ dX7_ended_23 ?_
    rintro M_6 ⟨s_5, s_5_e⟩
    refine j_aload_n X 0 rfl rfl dX7_ended_26 ?_
    refine j_get X (by decide) (wE_7 _ rfl) rfl awF7 2 (by decide) aw_21 rfl (v := .ref (ad 49)) rfl dX7_ended_27 ?_
    refine j_callVNI X (nn := 0) (As := []) (st := []) (ci := 0) (by decide) (wE_0 _ rfl) rfl aw_466 aw_467 (g_setEnded_49 l D y ad M_6 n (by omega) ((s_5 49 3 rfl).trans ((s_3_g 3 (by decide) (by decide)).trans hm))) (List.mem_of_getElem? (i := 35) rfl) aw_468 aw_20 (by decide +kernel) ⟨by decide, by decide⟩ rfl (Nat.le_of_ble_eq_true rfl) ⟨by decide, by decide⟩ dX7_ended_30 ?_
    rintro r_ M1_ ⟨rfl, rfl⟩
    exact j_iret X hr hlocks dX7_ended_33 (sm_tr (sm_tr sm_rf (sm_w s_3 (by intro b k hb; first | rfl | exact hb | (simp only [Bool.or_eq_false_iff, Bool.and_eq_false_iff, beq_eq_false_iff_ne, ne_eq, decide_eq_false_iff_not] at hb ⊢; omega)))) (sm_w s_5 (by intro b k hb; first | rfl | exact hb | (simp only [Bool.or_eq_false_iff, Bool.and_eq_false_iff, beq_eq_false_iff_ne, ne_eq, decide_eq_false_iff_not] at hb ⊢; omega))))
  · refine j_if_ne X 17 (by decide) dX7_ended_7 (fun c_7 => False.elim (by revert c_7; decide)) (fun c_7 => ?_)
    refine j_aload_n X 0 rfl rfl dX7_ended_10 ?_
    refine j_ldc X (v := (-1000000001)) aw_108 dX7_ended_11 ?_
    refine j_callVI X (nn := 1) (As := [.int (-1000000001)]) (st := []) (ci := 7) (by decide) (wE_7 _ rfl) rfl aw_117 aw_118 (g_refuse l D y ad M (-1000000001) 1 (by decide) (by decide)) aw_116 aw_119 aw_2 (by decide +kernel) ⟨by decide, by decide⟩ rfl (Nat.le_of_ble_eq_true rfl) ⟨by decide, by decide⟩ dX7_ended_13 ?_
    rintro r_ M_9 ⟨rfl, s_8⟩
    exact j_iret X hr hlocks dX7_ended_16 (sm_tr sm_rf (sm_w s_8 (by intro b k hb; first | rfl | exact hb | (simp only [Bool.or_eq_false_iff, Bool.and_eq_false_iff, beq_eq_false_iff_ne, ne_eq, decide_eq_false_iff_not] at hb ⊢; omega))))
set_option maxRecDepth 100000 in
set_option maxHeartbeats 4000000 in
theorem g_X7_fee (l : Launch) (D : va_G) (y : wY) (ad : Nat → Nat) (M : Mem) (n : Nat) (hn : n ≤ 9) (hm : M 12 3 = nI n) (hB : ∀ q, q < 9 → BoolOK (M (14 + q) 6)) (z2 z7 : Nat) (hT2 : TextOK M 2 z2) (hT7 : TextOK M 7 z7) (nn : Int32) : MI l D y ad yX7_fee (Cond.code yX7_fee cX7_fee 2 (some .int)) 9 M [.ref (ad 0), .int nn] (fun _ M' => sm (fun b _ => b == 6 || b == 11 || b == 78 || (decide (49 ≤ b) && decide (b ≤ 59))) M M') := by
  refine MI_of (by decide) (Nat.le_of_ble_eq_true rfl) ?_
  intro p e s m args below meth c X hr hlocks
  refine j_lv (lv1 := [(0, .ref (ad 0)), (1, .int nn)]) [0, 1] rfl ?_
  refine j_iload_n X 1 rfl rfl dX7_fee_0 ?_
  refine j_iconst X (v := 0) (by decide) dX7_fee_1 ?_
  refine j_bipush X (v := 60) (by decide) dX7_fee_2 ?_
  refine j_callSI X (nn := 3) (As := [.int nn, .int 0, .int 60]) (st := []) aw_110 (g_X7_isWithin l D y ad M nn 0 60 0 60 (by decide) (by decide)) aw_109 aw_111 aw_2 (by decide +kernel) ⟨by decide, by decide⟩ rfl (Nat.le_of_ble_eq_true rfl) ⟨by decide, by decide⟩ dX7_fee_4 ?_
  rintro r_ M1_ (⟨rfl, rfl, h_1⟩ | ⟨rfl, rfl, h_1⟩)
  · refine j_if_ne X 17 (by decide) dX7_fee_7 (fun c_2 => ?_) (fun c_2 => False.elim (by revert c_2; decide))
    obtain ⟨N, hN, rfl⟩ := nI_oft (x := nn) (n := 60) (by omega) (by omega) (by decide)
    refine j_aload_n X 0 rfl rfl dX7_fee_17 ?_
    refine j_callVV X (nn := 0) (As := []) (st := []) (ci := 7) (by decide) (wE_7 _ rfl) rfl aw_534 aw_535 (g_think l D y ad M n (by omega) hm hB) aw_533 aw_536 aw_2 (by decide +kernel) ⟨by decide, by decide⟩ rfl (Nat.le_of_ble_eq_true rfl) ⟨by decide, by decide⟩ dX7_fee_18 ?_
    rintro M_4 ⟨s_3, s_3_g, s_3_b⟩
    refine j_aload_n X 0 rfl rfl dX7_fee_21 ?_
    refine j_iload_n X 1 rfl rfl dX7_fee_22 ?_
    refine j_callVV X (nn := 1) (As := [.int (nI N)]) (st := []) (ci := 7) (by decide) (wE_7 _ rfl) rfl aw_545 aw_546 (g_thinkDays l D y ad M_4 n (by omega) ((s_3_g 3 (by decide) (by decide)).trans hm) z2 z7 (TextOK_keep (P := (fun b _ => b == 6 || b == 11 || b == 78 || (decide (49 ≤ b) && decide (b ≤ 59)))) (sm_tr sm_rf (sm_w s_3 (by intro b k hb; first | rfl | exact hb | (simp only [Bool.or_eq_false_iff, Bool.and_eq_false_iff, beq_eq_false_iff_ne, ne_eq, decide_eq_false_iff_not] at hb ⊢; omega)))) (fun _ => rfl) (fun _ => rfl) (fun _ => rfl) (fun _ => rfl) hT2) (TextOK_keep (P := (fun b _ => b == 6 || b == 11 || b == 78 || (decide (49 ≤ b) && decide (b ≤ 59)))) (sm_tr sm_rf (sm_w s_3 (by intro b k hb; first | rfl | exact hb | (simp only [Bool.or_eq_false_iff, Bool.and_eq_false_iff, beq_eq_false_iff_ne, ne_eq, decide_eq_false_iff_not] at hb ⊢; omega)))) (fun _ => rfl) (fun _ => rfl) (fun _ => rfl) (fun _ => rfl) hT7) N (by omega)) aw_544 aw_547 aw_2 (by decide +kernel) ⟨by decide, by decide⟩ rfl (Nat.le_of_ble_eq_true rfl) ⟨by decide, by decide⟩ dX7_fee_23 ?_
    rintro M_6 ⟨s_5, s_5_e⟩
    refine j_aload_n X 0 rfl rfl dX7_fee_26 ?_
    refine j_get X (by decide) (wE_7 _ rfl) rfl awF7 2 (by decide) aw_21 rfl (v := .ref (ad 49)) rfl dX7_fee_27 ?_
    refine j_getN X (by decide) (wE_0 _ rfl) rfl awF0 8 (by decide) (List.mem_of_getElem? (i := 20) rfl) rfl (v := .int (M_6 49 8)) rfl dX7_fee_30 ?_
    refine j_aload_n X 0 rfl rfl dX7_fee_33 ?_
    refine j_get X (by decide) (wE_7 _ rfl) rfl awF7 0 (by decide) aw_16 rfl (v := .ref (ad 1)) rfl dX7_fee_34 ?_
    refine j_getN X (by decide) (wE_6 _ rfl) rfl awF6 2 (by decide) (List.mem_of_getElem? (i := 23) rfl) rfl (v := .ref (ad 12)) rfl dX7_fee_37 ?_
    refine j_getN X (by decide) (wE_0 _ rfl) rfl awF0 8 (by decide) (List.mem_of_getElem? (i := 20) rfl) rfl (v := .int (M_6 12 8)) rfl dX7_fee_40 ?_
    refine j_isub X dX7_fee_43 ?_
    exact j_iret X hr hlocks dX7_fee_44 (sm_tr (sm_tr sm_rf (sm_w s_3 (by intro b k hb; first | rfl | exact hb | (simp only [Bool.or_eq_false_iff, Bool.and_eq_false_iff, beq_eq_false_iff_ne, ne_eq, decide_eq_false_iff_not] at hb ⊢; omega)))) (sm_w s_5 (by intro b k hb; first | rfl | exact hb | (simp only [Bool.or_eq_false_iff, Bool.and_eq_false_iff, beq_eq_false_iff_ne, ne_eq, decide_eq_false_iff_not] at hb ⊢; omega))))
  · refine j_if_ne X 17 (by decide) dX7_fee_7 (fun c_7 => False.elim (by revert c_7; decide)) (fun c_7 => ?_)
    refine j_aload_n X 0 rfl rfl dX7_fee_10 ?_
    refine j_ldc X (v := (-1000000001)) aw_108 dX7_fee_11 ?_
    refine j_callVI X (nn := 1) (As := [.int (-1000000001)]) (st := []) (ci := 7) (by decide) (wE_7 _ rfl) rfl aw_117 aw_118 (g_refuse l D y ad M (-1000000001) 1 (by decide) (by decide)) aw_116 aw_119 aw_2 (by decide +kernel) ⟨by decide, by decide⟩ rfl (Nat.le_of_ble_eq_true rfl) ⟨by decide, by decide⟩ dX7_fee_13 ?_
    rintro r_ M_9 ⟨rfl, s_8⟩
    exact j_iret X hr hlocks dX7_fee_16 (sm_tr sm_rf (sm_w s_8 (by intro b k hb; first | rfl | exact hb | (simp only [Bool.or_eq_false_iff, Bool.and_eq_false_iff, beq_eq_false_iff_ne, ne_eq, decide_eq_false_iff_not] at hb ⊢; omega))))
set_option maxRecDepth 100000 in
set_option maxHeartbeats 4000000 in
theorem g_X7_start (l : Launch) (D : va_G) (y : wY) (ad : Nat → Nat) (M : Mem) (n : Nat) (hn : n ≤ 9) (hm : M 12 3 = nI n) (hB : ∀ q, q < 9 → BoolOK (M (14 + q) 6)) (z2 z7 : Nat) (hT2 : TextOK M 2 z2) (hT7 : TextOK M 7 z7) (nn what : Int32) : MI l D y ad yX7_start (Cond.code yX7_start cX7_start 6 (some .int)) 9 M [.ref (ad 0), .int nn, .int what] (fun _ M' => sm (fun b _ => b == 6 || b == 11 || b == 78 || (decide (49 ≤ b) && decide (b ≤ 59))) M M') := by
  refine MI_of (by decide) (Nat.le_of_ble_eq_true rfl) ?_
  intro p e s m args below meth c X hr hlocks
  refine j_lv (lv1 := [(0, .ref (ad 0)), (1, .int nn), (2, .int what)]) [0, 1, 2] rfl ?_
  refine j_iload_n X 1 rfl rfl dX7_start_0 ?_
  refine j_iconst X (v := 0) (by decide) dX7_start_1 ?_
  refine j_bipush X (v := 60) (by decide) dX7_start_2 ?_
  refine j_callSI X (nn := 3) (As := [.int nn, .int 0, .int 60]) (st := []) aw_110 (g_X7_isWithin l D y ad M nn 0 60 0 60 (by decide) (by decide)) aw_109 aw_111 aw_2 (by decide +kernel) ⟨by decide, by decide⟩ rfl (Nat.le_of_ble_eq_true rfl) ⟨by decide, by decide⟩ dX7_start_4 ?_
  rintro r_ M1_ (⟨rfl, rfl, h_1⟩ | ⟨rfl, rfl, h_1⟩)
  · refine j_if_eq X 19 (by decide) dX7_start_7 (fun c_2 => False.elim (by revert c_2; decide)) (fun c_2 => ?_)
    refine j_iload_n X 2 rfl rfl dX7_start_10 ?_
    refine j_iconst X (v := 0) (by decide) dX7_start_11 ?_
    refine j_iconst X (v := 1) (by decide) dX7_start_12 ?_
    refine j_callSI X (nn := 3) (As := [.int what, .int 0, .int 1]) (st := []) aw_110 (g_X7_isWithin l D y ad M what 0 1 0 1 (by decide) (by decide)) aw_109 aw_111 aw_2 (by decide +kernel) ⟨by decide, by decide⟩ rfl (Nat.le_of_ble_eq_true rfl) ⟨by decide, by decide⟩ dX7_start_13 ?_
    rintro r_ M1_ (⟨rfl, rfl, h_3⟩ | ⟨rfl, rfl, h_3⟩)
    · refine j_if_ne X 26 (by decide) dX7_start_16 (fun c_4 => ?_) (fun c_4 => False.elim (by revert c_4; decide))
      obtain ⟨N, hN, rfl⟩ := nI_oft (x := nn) (n := 60) (by omega) (by omega) (by decide)
      refine j_iconst X (v := 0) (by decide) dX7_start_26 ?_
      refine j_istore_n X [(3, .int 0), (0, .ref (ad 0)), (1, .int (nI N)), (2, .int what)] rfl (by decide) rfl dX7_start_27 ?_
      refine j_iconst X (v := (-1)) (by decide) dX7_start_28 ?_
      refine j_istore X [(4, .int (-1)), (3, .int 0), (0, .ref (ad 0)), (1, .int (nI N)), (2, .int what)] (by decide) rfl dX7_start_29 ?_
      refine j_iconst X (v := 0) (by decide) dX7_start_31 ?_
      refine j_istore X [(5, .int 0), (4, .int (-1)), (3, .int 0), (0, .ref (ad 0)), (1, .int (nI N)), (2, .int what)] (by decide) rfl dX7_start_32 ?_
      have loop5 : ∀ (n_5 i_5 : Nat) (M5 : Mem) (v3_i_5 : Int32) (v4_i_5 : Int32), i_5 ≤ 10 → 10 - i_5 < n_5 → sm (fun b _ => b == 6 || b == 11 || b == 78 || (decide (49 ≤ b) && decide (b ≤ 59))) M M5 → J p l e (rmN 9) s m args below meth c 0 0 (QI (fun _ M' => sm (fun b _ => b == 6 || b == 11 || b == 78 || (decide (49 ≤ b) && decide (b ≤ 59))) M M') D y ad M s args below) D y ad (va_A (PL y ad M) s.heap.size) 6 M5 34 [(5, .int (nI i_5)), (0, .ref (ad 0)), (1, .int (nI N)), (2, .int what), (3, .int v3_i_5), (4, .int v4_i_5)] [] := by
        intro n_5
        induction n_5 with
        | zero => intro i_5 M5 v3_i_5 v4_i_5 h1 h2; exact absurd h2 (by omega)
        | succ n_5 ih5 =>
          intro i_5 M5 v3_i_5 v4_i_5 h1i_5 h2i_5 hs5
          refine j_iload X 0 rfl dX7_start_34 ?_
          refine j_bipush X (v := 10) (by decide) dX7_start_36 ?_
          refine j_icmp_ge X 89 (by decide) dX7_start_38 (fun c_6 => ?_) (fun c_6 => ?_)
          · have c_6 := (nI_leI (by omega) (by omega)).mp (show nI (10) ≤ nI i_5 from c_6)
            refine j_iload_n X 3 rfl rfl dX7_start_89 ?_
            refine j_if_ne X 97 (by decide) dX7_start_90 (fun c_7 => ?_) (fun c_7 => ?_)
            · have qc_7 := ti_ne (n := 0) (by decide) c_7
              refine j_iload X 5 rfl dX7_start_97 ?_
              exact j_iret X hr hlocks dX7_start_99 (sm_tr sm_rf (sm_w hs5 (by intro b k hb; first | rfl | exact hb | (simp only [Bool.or_eq_false_iff, Bool.and_eq_false_iff, beq_eq_false_iff_ne, ne_eq, decide_eq_false_iff_not] at hb ⊢; omega))))
            · have qc_7 := ti_eq (n := 0) (by decide) c_7
              refine j_iload_n X 4 rfl rfl dX7_start_93 ?_
              refine j_goto X 99 (by decide) dX7_start_94 ?_
              exact j_iret X hr hlocks dX7_start_99 (sm_tr sm_rf (sm_w hs5 (by intro b k hb; first | rfl | exact hb | (simp only [Bool.or_eq_false_iff, Bool.and_eq_false_iff, beq_eq_false_iff_ne, ne_eq, decide_eq_false_iff_not] at hb ⊢; omega))))
          · have c_6 : i_5 < 10 := by
              rcases Nat.lt_or_ge i_5 (10) with g | g
              · exact g
              · exact absurd (show nI (10) ≤ nI i_5 from nI_le g (by omega)) c_6
            refine j_aload_n X 1 rfl rfl dX7_start_41 ?_
            refine j_callVV X (nn := 0) (As := []) (st := []) (ci := 7) (by decide) (wE_7 _ rfl) rfl aw_534 aw_535 (g_think l D y ad M5 n (by omega) ((hs5 12 3 rfl).trans hm) (bool_keep (P := (fun b _ => b == 6 || b == 11 || b == 78 || (decide (49 ≤ b) && decide (b ≤ 59)))) (sm_tr sm_rf (sm_w hs5 (by intro b k hb; first | rfl | exact hb | (simp only [Bool.or_eq_false_iff, Bool.and_eq_false_iff, beq_eq_false_iff_ne, ne_eq, decide_eq_false_iff_not] at hb ⊢; omega)))) (fun q hq => by first | rfl | (simp; done) | (simp; omega)) hB)) aw_533 aw_536 aw_2 (by decide +kernel) ⟨by decide, by decide⟩ rfl (Nat.le_of_ble_eq_true rfl) ⟨by decide, by decide⟩ dX7_start_42 ?_
            rintro M_9 ⟨s_8, s_8_g, s_8_b⟩
            refine j_aload_n X 1 rfl rfl dX7_start_45 ?_
            refine j_get X (by decide) (wE_7 _ rfl) rfl awF7 2 (by decide) aw_21 rfl (v := .ref (ad 49)) rfl dX7_start_46 ?_
            refine j_iload X 0 rfl dX7_start_49 ?_
            refine j_putN X (up M_9 49 4 (nI i_5)) up_o (by decide) (wE_0 _ rfl) rfl awF0 4 (by decide) (wP_0_4 _ _ rfl) tyX0 tyX0_ok nmX0 rfl (ty := .int) (by decide +kernel) rfl rfl (Nat.le_of_ble_eq_true rfl) (List.mem_of_getElem? (i := 16) rfl) rfl dX7_start_51 ?_
            refine j_aload_n X 1 rfl rfl dX7_start_54 ?_
            refine j_iload_n X 2 rfl rfl dX7_start_55 ?_
            refine j_callVV X (nn := 1) (As := [.int (nI N)]) (st := []) (ci := 7) (by decide) (wE_7 _ rfl) rfl aw_545 aw_546 (g_thinkDays l D y ad (up M_9 49 4 (nI i_5)) n (by omega) ((up_slot _ (by decide)).trans ((s_8_g 3 (by decide) (by decide)).trans ((hs5 12 3 rfl).trans hm))) z2 z7 (TextOK_keep (P := (fun b _ => b == 6 || b == 11 || b == 78 || (decide (49 ≤ b) && decide (b ≤ 59)))) (sm_up (sm_tr (sm_tr sm_rf (sm_w hs5 (by intro b k hb; first | rfl | exact hb | (simp only [Bool.or_eq_false_iff, Bool.and_eq_false_iff, beq_eq_false_iff_ne, ne_eq, decide_eq_false_iff_not] at hb ⊢; omega)))) (sm_w s_8 (by intro b k hb; first | rfl | exact hb | (simp only [Bool.or_eq_false_iff, Bool.and_eq_false_iff, beq_eq_false_iff_ne, ne_eq, decide_eq_false_iff_not] at hb ⊢; omega)))) rfl) (fun _ => rfl) (fun _ => rfl) (fun _ => rfl) (fun _ => rfl) hT2) (TextOK_keep (P := (fun b _ => b == 6 || b == 11 || b == 78 || (decide (49 ≤ b) && decide (b ≤ 59)))) (sm_up (sm_tr (sm_tr sm_rf (sm_w hs5 (by intro b k hb; first | rfl | exact hb | (simp only [Bool.or_eq_false_iff, Bool.and_eq_false_iff, beq_eq_false_iff_ne, ne_eq, decide_eq_false_iff_not] at hb ⊢; omega)))) (sm_w s_8 (by intro b k hb; first | rfl | exact hb | (simp only [Bool.or_eq_false_iff, Bool.and_eq_false_iff, beq_eq_false_iff_ne, ne_eq, decide_eq_false_iff_not] at hb ⊢; omega)))) rfl) (fun _ => rfl) (fun _ => rfl) (fun _ => rfl) (fun _ => rfl) hT7) N (by omega)) aw_544 aw_547 aw_2 (by decide +kernel) ⟨by decide, by decide⟩ rfl (Nat.le_of_ble_eq_true rfl) ⟨by decide, by decide⟩ dX7_start_56 ?_
            rintro M_11 ⟨s_10, s_10_e⟩
            refine j_aload_n X 1 rfl rfl dX7_start_59 ?_
            refine j_get X (by decide) (wE_7 _ rfl) rfl awF7 2 (by decide) aw_21 rfl (v := .ref (ad 49)) rfl dX7_start_60 ?_
            refine j_callVNI X (nn := 0) (As := []) (st := []) (ci := 0) (by decide) (wE_0 _ rfl) rfl aw_462 aw_463 (g_endedMany_49 l D y ad M_11 n (by omega) ((s_10 49 3 rfl).trans ((up_slot _ (by decide)).trans ((s_8_g 3 (by decide) (by decide)).trans ((hs5 12 3 rfl).trans hm))))) (List.mem_of_getElem? (i := 31) rfl) aw_464 aw_20 (by decide +kernel) ⟨by decide, by decide⟩ rfl (Nat.le_of_ble_eq_true rfl) ⟨by decide, by decide⟩ dX7_start_63 ?_
            rintro r_12 M1_ rfl
            refine j_iload X 5 rfl dX7_start_66 ?_
            refine j_icmp_le X 83 (by decide) dX7_start_68 (fun c_13 => ?_) (fun c_13 => ?_)
            · have qc_13 := ti_le (a := r_12.toInt) (b := v4_i_5.toInt) rfl rfl c_13
              refine j_iinc X (v := (nI (i_5 + 1))) 0 [(5, .int (nI (i_5 + 1))), (0, .ref (ad 0)), (1, .int (nI N)), (2, .int what), (3, .int v3_i_5), (4, .int v4_i_5)] rfl (show nI i_5 + Int32.ofInt 1 = _ from nI_1 i_5) (by decide) rfl dX7_start_83 ?_
              refine j_goto X 34 (by decide) dX7_start_86 ?_
              refine j_lv (lv1 := [(5, .int (nI (i_5 + 1))), (0, .ref (ad 0)), (1, .int (nI N)), (2, .int what), (3, .int v3_i_5), (4, .int v4_i_5)]) [0, 1, 2, 3, 4, 5] rfl ?_
              exact ih5 (i_5 + 1) _ _ _ (by omega) (by omega) (sm_tr (sm_up (sm_tr hs5 (sm_w s_8 (by intro b k hb; first | rfl | exact hb | (simp only [Bool.or_eq_false_iff, Bool.and_eq_false_iff, beq_eq_false_iff_ne, ne_eq, decide_eq_false_iff_not] at hb ⊢; omega)))) rfl) (sm_w s_10 (by intro b k hb; first | rfl | exact hb | (simp only [Bool.or_eq_false_iff, Bool.and_eq_false_iff, beq_eq_false_iff_ne, ne_eq, decide_eq_false_iff_not] at hb ⊢; omega))))
            · have qc_13 := ti_nle (a := r_12.toInt) (b := v4_i_5.toInt) rfl rfl c_13
              refine j_iload X 0 rfl dX7_start_71 ?_
              refine j_istore_n X [(3, .int (nI i_5)), (5, .int (nI i_5)), (0, .ref (ad 0)), (1, .int (nI N)), (2, .int what), (4, .int v4_i_5)] rfl (by decide) rfl dX7_start_73 ?_
              refine j_aload_n X 2 rfl rfl dX7_start_74 ?_
              refine j_get X (by decide) (wE_7 _ rfl) rfl awF7 2 (by decide) aw_21 rfl (v := .ref (ad 49)) rfl dX7_start_75 ?_
              refine j_callVNI X (nn := 0) (As := []) (st := []) (ci := 0) (by decide) (wE_0 _ rfl) rfl aw_462 aw_463 (g_endedMany_49 l D y ad M_11 n (by omega) ((s_10 49 3 rfl).trans ((up_slot _ (by decide)).trans ((s_8_g 3 (by decide) (by decide)).trans ((hs5 12 3 rfl).trans hm))))) (List.mem_of_getElem? (i := 31) rfl) aw_464 aw_20 (by decide +kernel) ⟨by decide, by decide⟩ rfl (Nat.le_of_ble_eq_true rfl) ⟨by decide, by decide⟩ dX7_start_78 ?_
              rintro r_14 M1_ rfl
              refine j_istore X [(4, .int r_14), (3, .int (nI i_5)), (5, .int (nI i_5)), (0, .ref (ad 0)), (1, .int (nI N)), (2, .int what)] (by decide) rfl dX7_start_81 ?_
              refine j_iinc X (v := (nI (i_5 + 1))) 2 [(5, .int (nI (i_5 + 1))), (4, .int r_14), (3, .int (nI i_5)), (0, .ref (ad 0)), (1, .int (nI N)), (2, .int what)] rfl (show nI i_5 + Int32.ofInt 1 = _ from nI_1 i_5) (by decide) rfl dX7_start_83 ?_
              refine j_goto X 34 (by decide) dX7_start_86 ?_
              refine j_lv (lv1 := [(5, .int (nI (i_5 + 1))), (0, .ref (ad 0)), (1, .int (nI N)), (2, .int what), (3, .int (nI i_5)), (4, .int r_14)]) [0, 3, 4, 5, 2, 1] rfl ?_
              exact ih5 (i_5 + 1) _ _ _ (by omega) (by omega) (sm_tr (sm_up (sm_tr hs5 (sm_w s_8 (by intro b k hb; first | rfl | exact hb | (simp only [Bool.or_eq_false_iff, Bool.and_eq_false_iff, beq_eq_false_iff_ne, ne_eq, decide_eq_false_iff_not] at hb ⊢; omega)))) rfl) (sm_w s_10 (by intro b k hb; first | rfl | exact hb | (simp only [Bool.or_eq_false_iff, Bool.and_eq_false_iff, beq_eq_false_iff_ne, ne_eq, decide_eq_false_iff_not] at hb ⊢; omega))))
      refine j_lv (lv1 := [(5, .int (nI 0)), (0, .ref (ad 0)), (1, .int (nI N)), (2, .int what), (3, .int 0), (4, .int (-1))]) [0, 3, 4, 5, 2, 1] rfl ?_
      exact loop5 (10 + 1) 0 _ _ _ (by omega) (by omega) sm_rf
    · refine j_if_ne X 26 (by decide) dX7_start_16 (fun c_15 => False.elim (by revert c_15; decide)) (fun c_15 => ?_)
      refine j_aload_n X 0 rfl rfl dX7_start_19 ?_
      refine j_ldc X (v := (-1000000001)) aw_108 dX7_start_20 ?_
      refine j_callVI X (nn := 1) (As := [.int (-1000000001)]) (st := []) (ci := 7) (by decide) (wE_7 _ rfl) rfl aw_117 aw_118 (g_refuse l D y ad M (-1000000001) 1 (by decide) (by decide)) aw_116 aw_119 aw_2 (by decide +kernel) ⟨by decide, by decide⟩ rfl (Nat.le_of_ble_eq_true rfl) ⟨by decide, by decide⟩ dX7_start_22 ?_
      rintro r_ M_17 ⟨rfl, s_16⟩
      exact j_iret X hr hlocks dX7_start_25 (sm_tr sm_rf (sm_w s_16 (by intro b k hb; first | rfl | exact hb | (simp only [Bool.or_eq_false_iff, Bool.and_eq_false_iff, beq_eq_false_iff_ne, ne_eq, decide_eq_false_iff_not] at hb ⊢; omega))))
  · refine j_if_eq X 19 (by decide) dX7_start_7 (fun c_18 => ?_) (fun c_18 => False.elim (by revert c_18; decide))
    refine j_aload_n X 0 rfl rfl dX7_start_19 ?_
    refine j_ldc X (v := (-1000000001)) aw_108 dX7_start_20 ?_
    refine j_callVI X (nn := 1) (As := [.int (-1000000001)]) (st := []) (ci := 7) (by decide) (wE_7 _ rfl) rfl aw_117 aw_118 (g_refuse l D y ad M (-1000000001) 1 (by decide) (by decide)) aw_116 aw_119 aw_2 (by decide +kernel) ⟨by decide, by decide⟩ rfl (Nat.le_of_ble_eq_true rfl) ⟨by decide, by decide⟩ dX7_start_22 ?_
    rintro r_ M_20 ⟨rfl, s_19⟩
    exact j_iret X hr hlocks dX7_start_25 (sm_tr sm_rf (sm_w s_19 (by intro b k hb; first | rfl | exact hb | (simp only [Bool.or_eq_false_iff, Bool.and_eq_false_iff, beq_eq_false_iff_ne, ne_eq, decide_eq_false_iff_not] at hb ⊢; omega))))
set_option maxRecDepth 100000 in
set_option maxHeartbeats 4000000 in
theorem g_X7_pace (l : Launch) (D : va_G) (y : wY) (ad : Nat → Nat) (M : Mem) (n : Nat) (hn : n ≤ 9) (hm : M 12 3 = nI n) (hB : ∀ q, q < 9 → BoolOK (M (14 + q) 6)) (z2 z7 : Nat) (hT2 : TextOK M 2 z2) (hT7 : TextOK M 7 z7) (nn what : Int32) : MI l D y ad yX7_pace (Cond.code yX7_pace cX7_pace 6 (some .int)) 9 M [.ref (ad 0), .int nn, .int what] (fun _ M' => sm (fun b _ => b == 6 || b == 11 || b == 78 || (decide (49 ≤ b) && decide (b ≤ 59))) M M') := by
  refine MI_of (by decide) (Nat.le_of_ble_eq_true rfl) ?_
  intro p e s m args below meth c X hr hlocks
  refine j_lv (lv1 := [(0, .ref (ad 0)), (1, .int nn), (2, .int what)]) [0, 1, 2] rfl ?_
  refine j_iload_n X 1 rfl rfl dX7_pace_0 ?_
  refine j_iconst X (v := 0) (by decide) dX7_pace_1 ?_
  refine j_bipush X (v := 60) (by decide) dX7_pace_2 ?_
  refine j_callSI X (nn := 3) (As := [.int nn, .int 0, .int 60]) (st := []) aw_110 (g_X7_isWithin l D y ad M nn 0 60 0 60 (by decide) (by decide)) aw_109 aw_111 aw_2 (by decide +kernel) ⟨by decide, by decide⟩ rfl (Nat.le_of_ble_eq_true rfl) ⟨by decide, by decide⟩ dX7_pace_4 ?_
  rintro r_ M1_ (⟨rfl, rfl, h_1⟩ | ⟨rfl, rfl, h_1⟩)
  · refine j_if_eq X 19 (by decide) dX7_pace_7 (fun c_2 => False.elim (by revert c_2; decide)) (fun c_2 => ?_)
    refine j_iload_n X 2 rfl rfl dX7_pace_10 ?_
    refine j_iconst X (v := 0) (by decide) dX7_pace_11 ?_
    refine j_iconst X (v := 1) (by decide) dX7_pace_12 ?_
    refine j_callSI X (nn := 3) (As := [.int what, .int 0, .int 1]) (st := []) aw_110 (g_X7_isWithin l D y ad M what 0 1 0 1 (by decide) (by decide)) aw_109 aw_111 aw_2 (by decide +kernel) ⟨by decide, by decide⟩ rfl (Nat.le_of_ble_eq_true rfl) ⟨by decide, by decide⟩ dX7_pace_13 ?_
    rintro r_ M1_ (⟨rfl, rfl, h_3⟩ | ⟨rfl, rfl, h_3⟩)
    · refine j_if_ne X 26 (by decide) dX7_pace_16 (fun c_4 => ?_) (fun c_4 => False.elim (by revert c_4; decide))
      obtain ⟨N, hN, rfl⟩ := nI_oft (x := nn) (n := 60) (by omega) (by omega) (by decide)
      refine j_iconst X (v := 0) (by decide) dX7_pace_26 ?_
      refine j_istore_n X [(3, .int 0), (0, .ref (ad 0)), (1, .int (nI N)), (2, .int what)] rfl (by decide) rfl dX7_pace_27 ?_
      refine j_iconst X (v := (-1)) (by decide) dX7_pace_28 ?_
      refine j_istore X [(4, .int (-1)), (3, .int 0), (0, .ref (ad 0)), (1, .int (nI N)), (2, .int what)] (by decide) rfl dX7_pace_29 ?_
      refine j_iconst X (v := 0) (by decide) dX7_pace_31 ?_
      refine j_istore X [(5, .int 0), (4, .int (-1)), (3, .int 0), (0, .ref (ad 0)), (1, .int (nI N)), (2, .int what)] (by decide) rfl dX7_pace_32 ?_
      have loop5 : ∀ (n_5 i_5 : Nat) (M5 : Mem) (v3_i_5 : Int32) (v4_i_5 : Int32), i_5 ≤ 10 → 10 - i_5 < n_5 → sm (fun b _ => b == 6 || b == 11 || b == 78 || (decide (49 ≤ b) && decide (b ≤ 59))) M M5 → J p l e (rmN 9) s m args below meth c 0 0 (QI (fun _ M' => sm (fun b _ => b == 6 || b == 11 || b == 78 || (decide (49 ≤ b) && decide (b ≤ 59))) M M') D y ad M s args below) D y ad (va_A (PL y ad M) s.heap.size) 6 M5 34 [(5, .int (nI i_5)), (0, .ref (ad 0)), (1, .int (nI N)), (2, .int what), (3, .int v3_i_5), (4, .int v4_i_5)] [] := by
        intro n_5
        induction n_5 with
        | zero => intro i_5 M5 v3_i_5 v4_i_5 h1 h2; exact absurd h2 (by omega)
        | succ n_5 ih5 =>
          intro i_5 M5 v3_i_5 v4_i_5 h1i_5 h2i_5 hs5
          refine j_iload X 0 rfl dX7_pace_34 ?_
          refine j_bipush X (v := 10) (by decide) dX7_pace_36 ?_
          refine j_icmp_ge X 89 (by decide) dX7_pace_38 (fun c_6 => ?_) (fun c_6 => ?_)
          · have c_6 := (nI_leI (by omega) (by omega)).mp (show nI (10) ≤ nI i_5 from c_6)
            refine j_iload_n X 3 rfl rfl dX7_pace_89 ?_
            refine j_if_ne X 97 (by decide) dX7_pace_90 (fun c_7 => ?_) (fun c_7 => ?_)
            · have qc_7 := ti_ne (n := 0) (by decide) c_7
              refine j_iload X 5 rfl dX7_pace_97 ?_
              exact j_iret X hr hlocks dX7_pace_99 (sm_tr sm_rf (sm_w hs5 (by intro b k hb; first | rfl | exact hb | (simp only [Bool.or_eq_false_iff, Bool.and_eq_false_iff, beq_eq_false_iff_ne, ne_eq, decide_eq_false_iff_not] at hb ⊢; omega))))
            · have qc_7 := ti_eq (n := 0) (by decide) c_7
              refine j_iload_n X 4 rfl rfl dX7_pace_93 ?_
              refine j_goto X 99 (by decide) dX7_pace_94 ?_
              exact j_iret X hr hlocks dX7_pace_99 (sm_tr sm_rf (sm_w hs5 (by intro b k hb; first | rfl | exact hb | (simp only [Bool.or_eq_false_iff, Bool.and_eq_false_iff, beq_eq_false_iff_ne, ne_eq, decide_eq_false_iff_not] at hb ⊢; omega))))
          · have c_6 : i_5 < 10 := by
              rcases Nat.lt_or_ge i_5 (10) with g | g
              · exact g
              · exact absurd (show nI (10) ≤ nI i_5 from nI_le g (by omega)) c_6
            refine j_aload_n X 1 rfl rfl dX7_pace_41 ?_
            refine j_callVV X (nn := 0) (As := []) (st := []) (ci := 7) (by decide) (wE_7 _ rfl) rfl aw_534 aw_535 (g_think l D y ad M5 n (by omega) ((hs5 12 3 rfl).trans hm) (bool_keep (P := (fun b _ => b == 6 || b == 11 || b == 78 || (decide (49 ≤ b) && decide (b ≤ 59)))) (sm_tr sm_rf (sm_w hs5 (by intro b k hb; first | rfl | exact hb | (simp only [Bool.or_eq_false_iff, Bool.and_eq_false_iff, beq_eq_false_iff_ne, ne_eq, decide_eq_false_iff_not] at hb ⊢; omega)))) (fun q hq => by first | rfl | (simp; done) | (simp; omega)) hB)) aw_533 aw_536 aw_2 (by decide +kernel) ⟨by decide, by decide⟩ rfl (Nat.le_of_ble_eq_true rfl) ⟨by decide, by decide⟩ dX7_pace_42 ?_
            rintro M_9 ⟨s_8, s_8_g, s_8_b⟩
            refine j_aload_n X 1 rfl rfl dX7_pace_45 ?_
            refine j_get X (by decide) (wE_7 _ rfl) rfl awF7 2 (by decide) aw_21 rfl (v := .ref (ad 49)) rfl dX7_pace_46 ?_
            refine j_iload X 0 rfl dX7_pace_49 ?_
            refine j_putN X (up M_9 49 5 (nI i_5)) up_o (by decide) (wE_0 _ rfl) rfl awF0 5 (by decide) (wP_0_5 _ _ rfl) tyX0 tyX0_ok nmX0 rfl (ty := .int) (by decide +kernel) rfl rfl (Nat.le_of_ble_eq_true rfl) (List.mem_of_getElem? (i := 17) rfl) rfl dX7_pace_51 ?_
            refine j_aload_n X 1 rfl rfl dX7_pace_54 ?_
            refine j_iload_n X 2 rfl rfl dX7_pace_55 ?_
            refine j_callVV X (nn := 1) (As := [.int (nI N)]) (st := []) (ci := 7) (by decide) (wE_7 _ rfl) rfl aw_545 aw_546 (g_thinkDays l D y ad (up M_9 49 5 (nI i_5)) n (by omega) ((up_slot _ (by decide)).trans ((s_8_g 3 (by decide) (by decide)).trans ((hs5 12 3 rfl).trans hm))) z2 z7 (TextOK_keep (P := (fun b _ => b == 6 || b == 11 || b == 78 || (decide (49 ≤ b) && decide (b ≤ 59)))) (sm_up (sm_tr (sm_tr sm_rf (sm_w hs5 (by intro b k hb; first | rfl | exact hb | (simp only [Bool.or_eq_false_iff, Bool.and_eq_false_iff, beq_eq_false_iff_ne, ne_eq, decide_eq_false_iff_not] at hb ⊢; omega)))) (sm_w s_8 (by intro b k hb; first | rfl | exact hb | (simp only [Bool.or_eq_false_iff, Bool.and_eq_false_iff, beq_eq_false_iff_ne, ne_eq, decide_eq_false_iff_not] at hb ⊢; omega)))) rfl) (fun _ => rfl) (fun _ => rfl) (fun _ => rfl) (fun _ => rfl) hT2) (TextOK_keep (P := (fun b _ => b == 6 || b == 11 || b == 78 || (decide (49 ≤ b) && decide (b ≤ 59)))) (sm_up (sm_tr (sm_tr sm_rf (sm_w hs5 (by intro b k hb; first | rfl | exact hb | (simp only [Bool.or_eq_false_iff, Bool.and_eq_false_iff, beq_eq_false_iff_ne, ne_eq, decide_eq_false_iff_not] at hb ⊢; omega)))) (sm_w s_8 (by intro b k hb; first | rfl | exact hb | (simp only [Bool.or_eq_false_iff, Bool.and_eq_false_iff, beq_eq_false_iff_ne, ne_eq, decide_eq_false_iff_not] at hb ⊢; omega)))) rfl) (fun _ => rfl) (fun _ => rfl) (fun _ => rfl) (fun _ => rfl) hT7) N (by omega)) aw_544 aw_547 aw_2 (by decide +kernel) ⟨by decide, by decide⟩ rfl (Nat.le_of_ble_eq_true rfl) ⟨by decide, by decide⟩ dX7_pace_56 ?_
            rintro M_11 ⟨s_10, s_10_e⟩
            refine j_aload_n X 1 rfl rfl dX7_pace_59 ?_
            refine j_get X (by decide) (wE_7 _ rfl) rfl awF7 2 (by decide) aw_21 rfl (v := .ref (ad 49)) rfl dX7_pace_60 ?_
            refine j_callVNI X (nn := 0) (As := []) (st := []) (ci := 0) (by decide) (wE_0 _ rfl) rfl aw_462 aw_463 (g_endedMany_49 l D y ad M_11 n (by omega) ((s_10 49 3 rfl).trans ((up_slot _ (by decide)).trans ((s_8_g 3 (by decide) (by decide)).trans ((hs5 12 3 rfl).trans hm))))) (List.mem_of_getElem? (i := 31) rfl) aw_464 aw_20 (by decide +kernel) ⟨by decide, by decide⟩ rfl (Nat.le_of_ble_eq_true rfl) ⟨by decide, by decide⟩ dX7_pace_63 ?_
            rintro r_12 M1_ rfl
            refine j_iload X 5 rfl dX7_pace_66 ?_
            refine j_icmp_le X 83 (by decide) dX7_pace_68 (fun c_13 => ?_) (fun c_13 => ?_)
            · have qc_13 := ti_le (a := r_12.toInt) (b := v4_i_5.toInt) rfl rfl c_13
              refine j_iinc X (v := (nI (i_5 + 1))) 0 [(5, .int (nI (i_5 + 1))), (0, .ref (ad 0)), (1, .int (nI N)), (2, .int what), (3, .int v3_i_5), (4, .int v4_i_5)] rfl (show nI i_5 + Int32.ofInt 1 = _ from nI_1 i_5) (by decide) rfl dX7_pace_83 ?_
              refine j_goto X 34 (by decide) dX7_pace_86 ?_
              refine j_lv (lv1 := [(5, .int (nI (i_5 + 1))), (0, .ref (ad 0)), (1, .int (nI N)), (2, .int what), (3, .int v3_i_5), (4, .int v4_i_5)]) [0, 1, 2, 3, 4, 5] rfl ?_
              exact ih5 (i_5 + 1) _ _ _ (by omega) (by omega) (sm_tr (sm_up (sm_tr hs5 (sm_w s_8 (by intro b k hb; first | rfl | exact hb | (simp only [Bool.or_eq_false_iff, Bool.and_eq_false_iff, beq_eq_false_iff_ne, ne_eq, decide_eq_false_iff_not] at hb ⊢; omega)))) rfl) (sm_w s_10 (by intro b k hb; first | rfl | exact hb | (simp only [Bool.or_eq_false_iff, Bool.and_eq_false_iff, beq_eq_false_iff_ne, ne_eq, decide_eq_false_iff_not] at hb ⊢; omega))))
            · have qc_13 := ti_nle (a := r_12.toInt) (b := v4_i_5.toInt) rfl rfl c_13
              refine j_iload X 0 rfl dX7_pace_71 ?_
              refine j_istore_n X [(3, .int (nI i_5)), (5, .int (nI i_5)), (0, .ref (ad 0)), (1, .int (nI N)), (2, .int what), (4, .int v4_i_5)] rfl (by decide) rfl dX7_pace_73 ?_
              refine j_aload_n X 2 rfl rfl dX7_pace_74 ?_
              refine j_get X (by decide) (wE_7 _ rfl) rfl awF7 2 (by decide) aw_21 rfl (v := .ref (ad 49)) rfl dX7_pace_75 ?_
              refine j_callVNI X (nn := 0) (As := []) (st := []) (ci := 0) (by decide) (wE_0 _ rfl) rfl aw_462 aw_463 (g_endedMany_49 l D y ad M_11 n (by omega) ((s_10 49 3 rfl).trans ((up_slot _ (by decide)).trans ((s_8_g 3 (by decide) (by decide)).trans ((hs5 12 3 rfl).trans hm))))) (List.mem_of_getElem? (i := 31) rfl) aw_464 aw_20 (by decide +kernel) ⟨by decide, by decide⟩ rfl (Nat.le_of_ble_eq_true rfl) ⟨by decide, by decide⟩ dX7_pace_78 ?_
              rintro r_14 M1_ rfl
              refine j_istore X [(4, .int r_14), (3, .int (nI i_5)), (5, .int (nI i_5)), (0, .ref (ad 0)), (1, .int (nI N)), (2, .int what)] (by decide) rfl dX7_pace_81 ?_
              refine j_iinc X (v := (nI (i_5 + 1))) 2 [(5, .int (nI (i_5 + 1))), (4, .int r_14), (3, .int (nI i_5)), (0, .ref (ad 0)), (1, .int (nI N)), (2, .int what)] rfl (show nI i_5 + Int32.ofInt 1 = _ from nI_1 i_5) (by decide) rfl dX7_pace_83 ?_
              refine j_goto X 34 (by decide) dX7_pace_86 ?_
              refine j_lv (lv1 := [(5, .int (nI (i_5 + 1))), (0, .ref (ad 0)), (1, .int (nI N)), (2, .int what), (3, .int (nI i_5)), (4, .int r_14)]) [0, 3, 4, 5, 2, 1] rfl ?_
              exact ih5 (i_5 + 1) _ _ _ (by omega) (by omega) (sm_tr (sm_up (sm_tr hs5 (sm_w s_8 (by intro b k hb; first | rfl | exact hb | (simp only [Bool.or_eq_false_iff, Bool.and_eq_false_iff, beq_eq_false_iff_ne, ne_eq, decide_eq_false_iff_not] at hb ⊢; omega)))) rfl) (sm_w s_10 (by intro b k hb; first | rfl | exact hb | (simp only [Bool.or_eq_false_iff, Bool.and_eq_false_iff, beq_eq_false_iff_ne, ne_eq, decide_eq_false_iff_not] at hb ⊢; omega))))
      refine j_lv (lv1 := [(5, .int (nI 0)), (0, .ref (ad 0)), (1, .int (nI N)), (2, .int what), (3, .int 0), (4, .int (-1))]) [0, 3, 4, 5, 2, 1] rfl ?_
      exact loop5 (10 + 1) 0 _ _ _ (by omega) (by omega) sm_rf
    · refine j_if_ne X 26 (by decide) dX7_pace_16 (fun c_15 => False.elim (by revert c_15; decide)) (fun c_15 => ?_)
      refine j_aload_n X 0 rfl rfl dX7_pace_19 ?_
      refine j_ldc X (v := (-1000000001)) aw_108 dX7_pace_20 ?_
      refine j_callVI X (nn := 1) (As := [.int (-1000000001)]) (st := []) (ci := 7) (by decide) (wE_7 _ rfl) rfl aw_117 aw_118 (g_refuse l D y ad M (-1000000001) 1 (by decide) (by decide)) aw_116 aw_119 aw_2 (by decide +kernel) ⟨by decide, by decide⟩ rfl (Nat.le_of_ble_eq_true rfl) ⟨by decide, by decide⟩ dX7_pace_22 ?_
      rintro r_ M_17 ⟨rfl, s_16⟩
      exact j_iret X hr hlocks dX7_pace_25 (sm_tr sm_rf (sm_w s_16 (by intro b k hb; first | rfl | exact hb | (simp only [Bool.or_eq_false_iff, Bool.and_eq_false_iff, beq_eq_false_iff_ne, ne_eq, decide_eq_false_iff_not] at hb ⊢; omega))))
  · refine j_if_eq X 19 (by decide) dX7_pace_7 (fun c_18 => ?_) (fun c_18 => False.elim (by revert c_18; decide))
    refine j_aload_n X 0 rfl rfl dX7_pace_19 ?_
    refine j_ldc X (v := (-1000000001)) aw_108 dX7_pace_20 ?_
    refine j_callVI X (nn := 1) (As := [.int (-1000000001)]) (st := []) (ci := 7) (by decide) (wE_7 _ rfl) rfl aw_117 aw_118 (g_refuse l D y ad M (-1000000001) 1 (by decide) (by decide)) aw_116 aw_119 aw_2 (by decide +kernel) ⟨by decide, by decide⟩ rfl (Nat.le_of_ble_eq_true rfl) ⟨by decide, by decide⟩ dX7_pace_22 ?_
    rintro r_ M_20 ⟨rfl, s_19⟩
    exact j_iret X hr hlocks dX7_pace_25 (sm_tr sm_rf (sm_w s_19 (by intro b k hb; first | rfl | exact hb | (simp only [Bool.or_eq_false_iff, Bool.and_eq_false_iff, beq_eq_false_iff_ne, ne_eq, decide_eq_false_iff_not] at hb ⊢; omega))))
set_option maxRecDepth 100000 in
set_option maxHeartbeats 4000000 in
theorem g_X7_last (l : Launch) (D : va_G) (y : wY) (ad : Nat → Nat) (M : Mem) (n : Nat) (hn : n ≤ 9) (hm : M 12 3 = nI n) (hB : ∀ q, q < 9 → BoolOK (M (14 + q) 6)) (z2 z7 : Nat) (hT2 : TextOK M 2 z2) (hT7 : TextOK M 7 z7) (what : Int32) : MI l D y ad yX7_last (Cond.code yX7_last cX7_last 7 (some .int)) 9 M [.ref (ad 0), .int what] (fun _ M' => sm (fun b _ => b == 6 || b == 11 || b == 78 || (decide (49 ≤ b) && decide (b ≤ 59))) M M') := by
  refine MI_of (by decide) (Nat.le_of_ble_eq_true rfl) ?_
  intro p e s m args below meth c X hr hlocks
  refine j_lv (lv1 := [(0, .ref (ad 0)), (1, .int what)]) [0, 1] rfl ?_
  refine j_iload_n X 1 rfl rfl dX7_last_0 ?_
  refine j_iconst X (v := 0) (by decide) dX7_last_1 ?_
  refine j_iconst X (v := 1) (by decide) dX7_last_2 ?_
  refine j_callSI X (nn := 3) (As := [.int what, .int 0, .int 1]) (st := []) aw_110 (g_X7_isWithin l D y ad M what 0 1 0 1 (by decide) (by decide)) aw_109 aw_111 aw_2 (by decide +kernel) ⟨by decide, by decide⟩ rfl (Nat.le_of_ble_eq_true rfl) ⟨by decide, by decide⟩ dX7_last_3 ?_
  rintro r_ M1_ (⟨rfl, rfl, h_1⟩ | ⟨rfl, rfl, h_1⟩)
  · refine j_if_ne X 16 (by decide) dX7_last_6 (fun c_2 => ?_) (fun c_2 => False.elim (by revert c_2; decide))
    refine j_aload_n X 0 rfl rfl dX7_last_16 ?_
    refine j_callVV X (nn := 0) (As := []) (st := []) (ci := 7) (by decide) (wE_7 _ rfl) rfl aw_534 aw_535 (g_think l D y ad M n (by omega) hm hB) aw_533 aw_536 aw_2 (by decide +kernel) ⟨by decide, by decide⟩ rfl (Nat.le_of_ble_eq_true rfl) ⟨by decide, by decide⟩ dX7_last_17 ?_
    rintro M_4 ⟨s_3, s_3_g, s_3_b⟩
    refine j_iconst X (v := (-1)) (by decide) dX7_last_20 ?_
    refine j_istore_n X [(2, .int (-1)), (0, .ref (ad 0)), (1, .int what)] rfl (by decide) rfl dX7_last_21 ?_
    refine j_iconst X (v := 0) (by decide) dX7_last_22 ?_
    refine j_istore_n X [(3, .int 0), (2, .int (-1)), (0, .ref (ad 0)), (1, .int what)] rfl (by decide) rfl dX7_last_23 ?_
    refine j_iconst X (v := 1) (by decide) dX7_last_24 ?_
    refine j_istore X [(4, .int 1), (3, .int 0), (2, .int (-1)), (0, .ref (ad 0)), (1, .int what)] (by decide) rfl dX7_last_25 ?_
    have loop5 : ∀ (n_5 i_5 : Nat) (M5 : Mem) (v2_i_5 : Int32) (v3_i_5 : Int32), i_5 ≤ 61 → 61 - i_5 < n_5 → sm (fun b k => b == 6 || b == 11 || (b == 49 && (k == 4 || k == 6 || k == 7 || k == 8)) || (decide (51 ≤ b) && decide (b ≤ 59) && (k == 3 || k == 5 || k == 6))) M_4 M5 → J p l e (rmN 9) s m args below meth c 0 0 (QI (fun _ M' => sm (fun b _ => b == 6 || b == 11 || b == 78 || (decide (49 ≤ b) && decide (b ≤ 59))) M M') D y ad M s args below) D y ad (va_A (PL y ad M) s.heap.size) 7 M5 27 [(4, .int (nI i_5)), (0, .ref (ad 0)), (1, .int what), (2, .int v2_i_5), (3, .int v3_i_5)] [] := by
      intro n_5
      induction n_5 with
      | zero => intro i_5 M5 v2_i_5 v3_i_5 h1 h2; exact absurd h2 (by omega)
      | succ n_5 ih5 =>
        intro i_5 M5 v2_i_5 v3_i_5 h1i_5 h2i_5 hs5
        refine j_iload X 0 rfl dX7_last_27 ?_
        refine j_bipush X (v := 60) (by decide) dX7_last_29 ?_
        refine j_icmp_gt X 85 (by decide) dX7_last_31 (fun c_6 => ?_) (fun c_6 => ?_)
        · refine j_iload_n X 3 rfl rfl dX7_last_85 ?_
          refine j_if_ge X 96 (by decide) dX7_last_86 (fun c_7 => ?_) (fun c_7 => ?_)
          · have qc_7 := ti_le (a := 0) (b := v2_i_5.toInt) (by decide) rfl c_7
            refine j_iload_n X 2 rfl rfl dX7_last_96 ?_
            refine j_if_ne X 104 (by decide) dX7_last_97 (fun c_8 => ?_) (fun c_8 => ?_)
            · have qc_8 := ti_ne (n := 0) (by decide) c_8
              refine j_iload_n X 4 rfl rfl dX7_last_104 ?_
              exact j_iret X hr hlocks dX7_last_105 (sm_tr (sm_tr sm_rf (sm_w s_3 (by intro b k hb; first | rfl | exact hb | (simp only [Bool.or_eq_false_iff, Bool.and_eq_false_iff, beq_eq_false_iff_ne, ne_eq, decide_eq_false_iff_not] at hb ⊢; omega)))) (sm_w hs5 (by intro b k hb; first | rfl | exact hb | (simp only [Bool.or_eq_false_iff, Bool.and_eq_false_iff, beq_eq_false_iff_ne, ne_eq, decide_eq_false_iff_not] at hb ⊢; omega))))
            · have qc_8 := ti_eq (n := 0) (by decide) c_8
              refine j_iload_n X 3 rfl rfl dX7_last_100 ?_
              refine j_goto X 105 (by decide) dX7_last_101 ?_
              exact j_iret X hr hlocks dX7_last_105 (sm_tr (sm_tr sm_rf (sm_w s_3 (by intro b k hb; first | rfl | exact hb | (simp only [Bool.or_eq_false_iff, Bool.and_eq_false_iff, beq_eq_false_iff_ne, ne_eq, decide_eq_false_iff_not] at hb ⊢; omega)))) (sm_w hs5 (by intro b k hb; first | rfl | exact hb | (simp only [Bool.or_eq_false_iff, Bool.and_eq_false_iff, beq_eq_false_iff_ne, ne_eq, decide_eq_false_iff_not] at hb ⊢; omega))))
          · have qc_7 := ti_nle (a := 0) (b := v2_i_5.toInt) (by decide) rfl c_7
            refine j_aload_n X 1 rfl rfl dX7_last_89 ?_
            refine j_ldc X (v := (-1000000002)) aw_560 dX7_last_90 ?_
            refine j_callVI X (nn := 1) (As := [.int (-1000000002)]) (st := []) (ci := 7) (by decide) (wE_7 _ rfl) rfl aw_117 aw_118 (g_refuse l D y ad M5 (-1000000002) 2 (by decide) (by decide)) aw_116 aw_119 aw_2 (by decide +kernel) ⟨by decide, by decide⟩ rfl (Nat.le_of_ble_eq_true rfl) ⟨by decide, by decide⟩ dX7_last_92 ?_
            rintro r_ M_10 ⟨rfl, s_9⟩
            exact j_iret X hr hlocks dX7_last_95 (sm_tr (sm_tr (sm_tr sm_rf (sm_w s_3 (by intro b k hb; first | rfl | exact hb | (simp only [Bool.or_eq_false_iff, Bool.and_eq_false_iff, beq_eq_false_iff_ne, ne_eq, decide_eq_false_iff_not] at hb ⊢; omega)))) (sm_w hs5 (by intro b k hb; first | rfl | exact hb | (simp only [Bool.or_eq_false_iff, Bool.and_eq_false_iff, beq_eq_false_iff_ne, ne_eq, decide_eq_false_iff_not] at hb ⊢; omega)))) (sm_w s_9 (by intro b k hb; first | rfl | exact hb | (simp only [Bool.or_eq_false_iff, Bool.and_eq_false_iff, beq_eq_false_iff_ne, ne_eq, decide_eq_false_iff_not] at hb ⊢; omega))))
        · have c_6 : i_5 < 61 := by
            rcases Nat.lt_or_ge i_5 (61) with g | g
            · exact g
            · exact absurd (show nI 60 < nI i_5 from nI_lt (by omega) (by omega)) c_6
          refine j_aload_n X 1 rfl rfl dX7_last_34 ?_
          refine j_get X (by decide) (wE_7 _ rfl) rfl awF7 2 (by decide) aw_21 rfl (v := .ref (ad 49)) rfl dX7_last_35 ?_
          refine j_callVNI X (nn := 0) (As := []) (st := []) (ci := 0) (by decide) (wE_0 _ rfl) rfl aw_466 aw_467 (g_setEnded_49 l D y ad M5 n (by omega) ((hs5 49 3 rfl).trans ((s_3_g 3 (by decide) (by decide)).trans hm))) (List.mem_of_getElem? (i := 35) rfl) aw_468 aw_20 (by decide +kernel) ⟨by decide, by decide⟩ rfl (Nat.le_of_ble_eq_true rfl) ⟨by decide, by decide⟩ dX7_last_38 ?_
          rintro r_ M1_ ⟨rfl, rfl⟩
          refine j_istore X [(5, .int (setB (fun i => !decide (M5 (51 + i) 6 = 0)) n)), (4, .int (nI i_5)), (0, .ref (ad 0)), (1, .int what), (2, .int v2_i_5), (3, .int v3_i_5)] (by decide) rfl dX7_last_41 ?_
          refine j_aload_n X 2 rfl rfl dX7_last_43 ?_
          refine j_get X (by decide) (wE_7 _ rfl) rfl awF7 2 (by decide) aw_21 rfl (v := .ref (ad 49)) rfl dX7_last_44 ?_
          refine j_iconst X (v := 0) (by decide) dX7_last_47 ?_
          refine j_callVNV X (nn := 1) (As := [.int 0]) (st := []) (ci := 0) (by decide) (wE_0 _ rfl) rfl aw_439 aw_440 (g_passDay_49 l D y ad M5 n (by omega) ((hs5 49 3 rfl).trans ((s_3_g 3 (by decide) (by decide)).trans hm)) z2 z7 (TextOK_keep (P := (fun b _ => b == 6 || b == 11 || b == 78 || (decide (49 ≤ b) && decide (b ≤ 59)))) (sm_tr (sm_tr sm_rf (sm_w s_3 (by intro b k hb; first | rfl | exact hb | (simp only [Bool.or_eq_false_iff, Bool.and_eq_false_iff, beq_eq_false_iff_ne, ne_eq, decide_eq_false_iff_not] at hb ⊢; omega)))) (sm_w hs5 (by intro b k hb; first | rfl | exact hb | (simp only [Bool.or_eq_false_iff, Bool.and_eq_false_iff, beq_eq_false_iff_ne, ne_eq, decide_eq_false_iff_not] at hb ⊢; omega)))) (fun _ => rfl) (fun _ => rfl) (fun _ => rfl) (fun _ => rfl) hT2) (TextOK_keep (P := (fun b _ => b == 6 || b == 11 || b == 78 || (decide (49 ≤ b) && decide (b ≤ 59)))) (sm_tr (sm_tr sm_rf (sm_w s_3 (by intro b k hb; first | rfl | exact hb | (simp only [Bool.or_eq_false_iff, Bool.and_eq_false_iff, beq_eq_false_iff_ne, ne_eq, decide_eq_false_iff_not] at hb ⊢; omega)))) (sm_w hs5 (by intro b k hb; first | rfl | exact hb | (simp only [Bool.or_eq_false_iff, Bool.and_eq_false_iff, beq_eq_false_iff_ne, ne_eq, decide_eq_false_iff_not] at hb ⊢; omega)))) (fun _ => rfl) (fun _ => rfl) (fun _ => rfl) (fun _ => rfl) hT7) 0) (List.mem_of_getElem? (i := 27) rfl) aw_441 aw_20 (by decide +kernel) ⟨by decide, by decide⟩ rfl (Nat.le_of_ble_eq_true rfl) ⟨by decide, by decide⟩ dX7_last_48 ?_
          rintro M_12 ⟨s_11, s_11_e⟩
          refine j_aload_n X 2 rfl rfl dX7_last_51 ?_
          refine j_get X (by decide) (wE_7 _ rfl) rfl awF7 2 (by decide) aw_21 rfl (v := .ref (ad 49)) rfl dX7_last_52 ?_
          refine j_callVNI X (nn := 0) (As := []) (st := []) (ci := 0) (by decide) (wE_0 _ rfl) rfl aw_466 aw_467 (g_setEnded_49 l D y ad M_12 n (by omega) ((s_11 49 3 rfl).trans ((hs5 49 3 rfl).trans ((s_3_g 3 (by decide) (by decide)).trans hm)))) (List.mem_of_getElem? (i := 35) rfl) aw_468 aw_20 (by decide +kernel) ⟨by decide, by decide⟩ rfl (Nat.le_of_ble_eq_true rfl) ⟨by decide, by decide⟩ dX7_last_55 ?_
          rintro r_ M1_ ⟨rfl, rfl⟩
          refine j_iload X 0 rfl dX7_last_58 ?_
          refine j_iconst X (v := (-1)) (by decide) dX7_last_60 ?_
          refine j_ixor X dX7_last_61 ?_
          refine j_iand X dX7_last_62 ?_
          refine j_topi (fun g_13 _ => ?_)
          refine j_istore X [(6, .int g_13), (5, .int (setB (fun i => !decide (M5 (51 + i) 6 = 0)) n)), (4, .int (nI i_5)), (0, .ref (ad 0)), (1, .int what), (2, .int v2_i_5), (3, .int v3_i_5)] (by decide) rfl dX7_last_63 ?_
          refine j_iload X 0 rfl dX7_last_65 ?_
          refine j_if_eq X 79 (by decide) dX7_last_67 (fun c_14 => ?_) (fun c_14 => ?_)
          · have qc_14 := ti_eq (n := 0) (by decide) c_14
            refine j_iinc X (v := (nI (i_5 + 1))) 2 [(4, .int (nI (i_5 + 1))), (6, .int g_13), (5, .int (setB (fun i => !decide (M5 (51 + i) 6 = 0)) n)), (0, .ref (ad 0)), (1, .int what), (2, .int v2_i_5), (3, .int v3_i_5)] rfl (show nI i_5 + Int32.ofInt 1 = _ from nI_1 i_5) (by decide) rfl dX7_last_79 ?_
            refine j_goto X 27 (by decide) dX7_last_82 ?_
            refine j_lv (lv1 := [(4, .int (nI (i_5 + 1))), (0, .ref (ad 0)), (1, .int what), (2, .int v2_i_5), (3, .int v3_i_5)]) [0, 3, 4, 5, 6] rfl ?_
            exact ih5 (i_5 + 1) _ _ _ (by omega) (by omega) (sm_tr hs5 (sm_w s_11 (by intro b k hb; first | rfl | exact hb | (simp only [Bool.or_eq_false_iff, Bool.and_eq_false_iff, beq_eq_false_iff_ne, ne_eq, decide_eq_false_iff_not] at hb ⊢; omega))))
          · have qc_14 := ti_ne (n := 0) (by decide) c_14
            refine j_iload X 0 rfl dX7_last_70 ?_
            refine j_callSI X (nn := 1) (As := [.int g_13]) (st := []) aw_664 (g_greatestOf l D y ad M_12 g_13) aw_663 aw_665 aw_2 (by decide +kernel) ⟨by decide, by decide⟩ rfl (Nat.le_of_ble_eq_true rfl) ⟨by decide, by decide⟩ dX7_last_72 ?_
            rintro r_15 M1_ rfl
            refine j_istore_n X [(2, .int r_15), (6, .int g_13), (5, .int (setB (fun i => !decide (M5 (51 + i) 6 = 0)) n)), (4, .int (nI i_5)), (0, .ref (ad 0)), (1, .int what), (3, .int v3_i_5)] rfl (by decide) rfl dX7_last_75 ?_
            refine j_iload X 3 rfl dX7_last_76 ?_
            refine j_istore_n X [(3, .int (nI i_5)), (2, .int r_15), (6, .int g_13), (5, .int (setB (fun i => !decide (M5 (51 + i) 6 = 0)) n)), (4, .int (nI i_5)), (0, .ref (ad 0)), (1, .int what)] rfl (by decide) rfl dX7_last_78 ?_
            refine j_iinc X (v := (nI (i_5 + 1))) 4 [(4, .int (nI (i_5 + 1))), (3, .int (nI i_5)), (2, .int r_15), (6, .int g_13), (5, .int (setB (fun i => !decide (M5 (51 + i) 6 = 0)) n)), (0, .ref (ad 0)), (1, .int what)] rfl (show nI i_5 + Int32.ofInt 1 = _ from nI_1 i_5) (by decide) rfl dX7_last_79 ?_
            refine j_goto X 27 (by decide) dX7_last_82 ?_
            refine j_lv (lv1 := [(4, .int (nI (i_5 + 1))), (0, .ref (ad 0)), (1, .int what), (2, .int r_15), (3, .int (nI i_5))]) [0, 5, 6, 2, 1] rfl ?_
            exact ih5 (i_5 + 1) _ _ _ (by omega) (by omega) (sm_tr hs5 (sm_w s_11 (by intro b k hb; first | rfl | exact hb | (simp only [Bool.or_eq_false_iff, Bool.and_eq_false_iff, beq_eq_false_iff_ne, ne_eq, decide_eq_false_iff_not] at hb ⊢; omega))))
    refine j_lv (lv1 := [(4, .int (nI 1)), (0, .ref (ad 0)), (1, .int what), (2, .int (-1)), (3, .int 0)]) [0, 3, 4, 2, 1] rfl ?_
    exact loop5 (61 + 1) 1 _ _ _ (by omega) (by omega) sm_rf
  · refine j_if_ne X 16 (by decide) dX7_last_6 (fun c_16 => False.elim (by revert c_16; decide)) (fun c_16 => ?_)
    refine j_aload_n X 0 rfl rfl dX7_last_9 ?_
    refine j_ldc X (v := (-1000000001)) aw_108 dX7_last_10 ?_
    refine j_callVI X (nn := 1) (As := [.int (-1000000001)]) (st := []) (ci := 7) (by decide) (wE_7 _ rfl) rfl aw_117 aw_118 (g_refuse l D y ad M (-1000000001) 1 (by decide) (by decide)) aw_116 aw_119 aw_2 (by decide +kernel) ⟨by decide, by decide⟩ rfl (Nat.le_of_ble_eq_true rfl) ⟨by decide, by decide⟩ dX7_last_12 ?_
    rintro r_ M_18 ⟨rfl, s_17⟩
    exact j_iret X hr hlocks dX7_last_15 (sm_tr sm_rf (sm_w s_17 (by intro b k hb; first | rfl | exact hb | (simp only [Bool.or_eq_false_iff, Bool.and_eq_false_iff, beq_eq_false_iff_ne, ne_eq, decide_eq_false_iff_not] at hb ⊢; omega))))
set_option maxRecDepth 100000 in
set_option maxHeartbeats 4000000 in
theorem g_X7_then (l : Launch) (D : va_G) (y : wY) (ad : Nat → Nat) (M : Mem) (n : Nat) (hn : n ≤ 9) (hm : M 12 3 = nI n) (hB : ∀ q, q < 9 → BoolOK (M (14 + q) 6)) (z2 z7 : Nat) (hT2 : TextOK M 2 z2) (hT7 : TextOK M 7 z7) (nn q what : Int32) : MI l D y ad yX7_then (Cond.code yX7_then cX7_then 5 (some .int)) 9 M [.ref (ad 0), .int nn, .int q, .int what] (fun _ M' => sm (fun b _ => b == 6 || b == 11 || b == 78 || (decide (49 ≤ b) && decide (b ≤ 59))) M M') := by
  refine MI_of (by decide) (Nat.le_of_ble_eq_true rfl) ?_
  intro p e s m args below meth c X hr hlocks
  refine j_lv (lv1 := [(0, .ref (ad 0)), (1, .int nn), (2, .int q), (3, .int what)]) [0, 1, 2, 3] rfl ?_
  refine j_iload_n X 1 rfl rfl dX7_then_0 ?_
  refine j_iconst X (v := 0) (by decide) dX7_then_1 ?_
  refine j_bipush X (v := 60) (by decide) dX7_then_2 ?_
  refine j_callSI X (nn := 3) (As := [.int nn, .int 0, .int 60]) (st := []) aw_110 (g_X7_isWithin l D y ad M nn 0 60 0 60 (by decide) (by decide)) aw_109 aw_111 aw_2 (by decide +kernel) ⟨by decide, by decide⟩ rfl (Nat.le_of_ble_eq_true rfl) ⟨by decide, by decide⟩ dX7_then_4 ?_
  rintro r_ M1_ (⟨rfl, rfl, h_1⟩ | ⟨rfl, rfl, h_1⟩)
  · refine j_if_eq X 27 (by decide) dX7_then_7 (fun c_2 => False.elim (by revert c_2; decide)) (fun c_2 => ?_)
    refine j_aload_n X 0 rfl rfl dX7_then_10 ?_
    refine j_iload_n X 2 rfl rfl dX7_then_11 ?_
    refine j_callVI X (nn := 1) (As := [.int q]) (st := []) (ci := 7) (by decide) (wE_7 _ rfl) rfl aw_191 aw_192 (g_isQuarrel l D y ad M n (by omega) hm q) aw_190 aw_193 aw_2 (by decide +kernel) ⟨by decide, by decide⟩ rfl (Nat.le_of_ble_eq_true rfl) ⟨by decide, by decide⟩ dX7_then_12 ?_
    rintro r_ M1_ (⟨rfl, rfl, h_3⟩ | ⟨rfl, rfl⟩)
    · refine j_if_eq X 27 (by decide) dX7_then_15 (fun c_4 => False.elim (by revert c_4; decide)) (fun c_4 => ?_)
      refine j_iload_n X 3 rfl rfl dX7_then_18 ?_
      refine j_iconst X (v := 0) (by decide) dX7_then_19 ?_
      refine j_iconst X (v := 2) (by decide) dX7_then_20 ?_
      refine j_callSI X (nn := 3) (As := [.int what, .int 0, .int 2]) (st := []) aw_110 (g_X7_isWithin l D y ad M what 0 2 0 2 (by decide) (by decide)) aw_109 aw_111 aw_2 (by decide +kernel) ⟨by decide, by decide⟩ rfl (Nat.le_of_ble_eq_true rfl) ⟨by decide, by decide⟩ dX7_then_21 ?_
      rintro r_ M1_ (⟨rfl, rfl, h_5⟩ | ⟨rfl, rfl, h_5⟩)
      · refine j_if_ne X 34 (by decide) dX7_then_24 (fun c_6 => ?_) (fun c_6 => False.elim (by revert c_6; decide))
        obtain ⟨N, hN, rfl⟩ := nI_oft (x := nn) (n := 60) (by omega) (by omega) (by decide)
        refine j_aload_n X 0 rfl rfl dX7_then_34 ?_
        refine j_callVV X (nn := 0) (As := []) (st := []) (ci := 7) (by decide) (wE_7 _ rfl) rfl aw_534 aw_535 (g_think l D y ad M n (by omega) hm hB) aw_533 aw_536 aw_2 (by decide +kernel) ⟨by decide, by decide⟩ rfl (Nat.le_of_ble_eq_true rfl) ⟨by decide, by decide⟩ dX7_then_35 ?_
        rintro M_8 ⟨s_7, s_7_g, s_7_b⟩
        refine j_aload_n X 0 rfl rfl dX7_then_38 ?_
        refine j_iload_n X 1 rfl rfl dX7_then_39 ?_
        refine j_callVV X (nn := 1) (As := [.int (nI N)]) (st := []) (ci := 7) (by decide) (wE_7 _ rfl) rfl aw_545 aw_546 (g_thinkDays l D y ad M_8 n (by omega) ((s_7_g 3 (by decide) (by decide)).trans hm) z2 z7 (TextOK_keep (P := (fun b _ => b == 6 || b == 11 || b == 78 || (decide (49 ≤ b) && decide (b ≤ 59)))) (sm_tr sm_rf (sm_w s_7 (by intro b k hb; first | rfl | exact hb | (simp only [Bool.or_eq_false_iff, Bool.and_eq_false_iff, beq_eq_false_iff_ne, ne_eq, decide_eq_false_iff_not] at hb ⊢; omega)))) (fun _ => rfl) (fun _ => rfl) (fun _ => rfl) (fun _ => rfl) hT2) (TextOK_keep (P := (fun b _ => b == 6 || b == 11 || b == 78 || (decide (49 ≤ b) && decide (b ≤ 59)))) (sm_tr sm_rf (sm_w s_7 (by intro b k hb; first | rfl | exact hb | (simp only [Bool.or_eq_false_iff, Bool.and_eq_false_iff, beq_eq_false_iff_ne, ne_eq, decide_eq_false_iff_not] at hb ⊢; omega)))) (fun _ => rfl) (fun _ => rfl) (fun _ => rfl) (fun _ => rfl) hT7) N (by omega)) aw_544 aw_547 aw_2 (by decide +kernel) ⟨by decide, by decide⟩ rfl (Nat.le_of_ble_eq_true rfl) ⟨by decide, by decide⟩ dX7_then_40 ?_
        rintro M_10 ⟨s_9, s_9_e⟩
        refine j_aload_n X 0 rfl rfl dX7_then_43 ?_
        refine j_get X (by decide) (wE_7 _ rfl) rfl awF7 2 (by decide) aw_21 rfl (v := .ref (ad 49)) rfl dX7_then_44 ?_
        refine j_getN X (by decide) (wE_0 _ rfl) rfl awF0 2 (by decide) (List.mem_of_getElem? (i := 14) rfl) rfl (v := .ref (ad 50)) rfl dX7_then_47 ?_
        refine j_iload_n X 2 rfl rfl dX7_then_50 ?_
        obtain ⟨j_11, hj_11, ej_11⟩ := nI_oft (x := q) (n := 8) (by omega) (by omega) (by decide)
        refine j_eqi (v := nI j_11) ej_11 ?_
        refine j_aald10 X (by decide) rfl (show vp_in (nI j_11) 9 from vp_in_nI (by omega) (by decide)) dX7_then_51 ?_
        refine j_eqr (v := 51 + j_11) (by rw [nI_clamp (by omega)]; exact rf_one49 (by omega)) ?_
        refine j_astore X [(4, .ref (ad (51 + j_11))), (0, .ref (ad 0)), (1, .int (nI N)), (2, .int q), (3, .int what)] (by decide) rfl dX7_then_52 ?_
        refine j_iload_n X 4 rfl rfl dX7_then_54 ?_
        by_cases w_12 : what = 0
        · refine j_lsw X 80 (by decide) (off := 25) (by rw [w_12]; decide) (by decide) dX7_then_55 ?_
          have qw_12 := ti_eq (n := 0) (by decide) w_12
          refine j_aload X 0 rfl dX7_then_80 ?_
          refine j_getN X (by omega) (wE_1 _ (kd_one49 (by omega))) rfl awF1 3 (by decide) (List.mem_of_getElem? (i := 6) rfl) rfl (v := .int (M_10 (51 + j_11) 3)) rfl dX7_then_82 ?_
          exact j_iret X hr hlocks dX7_then_85 (sm_tr (sm_tr sm_rf (sm_w s_7 (by intro b k hb; first | rfl | exact hb | (simp only [Bool.or_eq_false_iff, Bool.and_eq_false_iff, beq_eq_false_iff_ne, ne_eq, decide_eq_false_iff_not] at hb ⊢; omega)))) (sm_w s_9 (by intro b k hb; first | rfl | exact hb | (simp only [Bool.or_eq_false_iff, Bool.and_eq_false_iff, beq_eq_false_iff_ne, ne_eq, decide_eq_false_iff_not] at hb ⊢; omega))))
        by_cases w_13 : what = 1
        · refine j_lsw X 86 (by decide) (off := 31) (by rw [w_13]; decide) (by decide) dX7_then_55 ?_
          have qw_13 := ti_eq (n := 1) (by decide) w_13
          refine j_aload X 0 rfl dX7_then_86 ?_
          refine j_getN X (by omega) (wE_1 _ (kd_one49 (by omega))) rfl awF1 6 (by decide) (List.mem_of_getElem? (i := 12) rfl) rfl (v := .int (M_10 (51 + j_11) 6)) rfl dX7_then_88 ?_
          refine j_if_eq X 98 (by decide) dX7_then_91 (fun c_14 => ?_) (fun c_14 => ?_)
          · have qc_14 := ti_eq (n := 0) (by decide) c_14
            refine j_iconst X (v := 0) (by decide) dX7_then_98 ?_
            exact j_iret X hr hlocks dX7_then_99 (sm_tr (sm_tr sm_rf (sm_w s_7 (by intro b k hb; first | rfl | exact hb | (simp only [Bool.or_eq_false_iff, Bool.and_eq_false_iff, beq_eq_false_iff_ne, ne_eq, decide_eq_false_iff_not] at hb ⊢; omega)))) (sm_w s_9 (by intro b k hb; first | rfl | exact hb | (simp only [Bool.or_eq_false_iff, Bool.and_eq_false_iff, beq_eq_false_iff_ne, ne_eq, decide_eq_false_iff_not] at hb ⊢; omega))))
          · have qc_14 := ti_ne (n := 0) (by decide) c_14
            refine j_iconst X (v := 1) (by decide) dX7_then_94 ?_
            refine j_goto X 99 (by decide) dX7_then_95 ?_
            exact j_iret X hr hlocks dX7_then_99 (sm_tr (sm_tr sm_rf (sm_w s_7 (by intro b k hb; first | rfl | exact hb | (simp only [Bool.or_eq_false_iff, Bool.and_eq_false_iff, beq_eq_false_iff_ne, ne_eq, decide_eq_false_iff_not] at hb ⊢; omega)))) (sm_w s_9 (by intro b k hb; first | rfl | exact hb | (simp only [Bool.or_eq_false_iff, Bool.and_eq_false_iff, beq_eq_false_iff_ne, ne_eq, decide_eq_false_iff_not] at hb ⊢; omega))))
        have qw_12 := ti_ne (n := 0) (by decide) w_12
        have qw_13 := ti_ne (n := 1) (by decide) w_13
        refine j_lsw X 100 (by decide) (off := 45) (by simp [Op.lookupswitch.offset, qw_12, Ne.symm qw_12, qw_13, Ne.symm qw_13]) (by decide) dX7_then_55 ?_
        refine j_aload X 0 rfl dX7_then_100 ?_
        refine j_getN X (by omega) (wE_1 _ (kd_one49 (by omega))) rfl awF1 5 (by decide) (List.mem_of_getElem? (i := 10) rfl) rfl (v := .int (M_10 (51 + j_11) 5)) rfl dX7_then_102 ?_
        exact j_iret X hr hlocks dX7_then_105 (sm_tr (sm_tr sm_rf (sm_w s_7 (by intro b k hb; first | rfl | exact hb | (simp only [Bool.or_eq_false_iff, Bool.and_eq_false_iff, beq_eq_false_iff_ne, ne_eq, decide_eq_false_iff_not] at hb ⊢; omega)))) (sm_w s_9 (by intro b k hb; first | rfl | exact hb | (simp only [Bool.or_eq_false_iff, Bool.and_eq_false_iff, beq_eq_false_iff_ne, ne_eq, decide_eq_false_iff_not] at hb ⊢; omega))))
      · refine j_if_ne X 34 (by decide) dX7_then_24 (fun c_15 => False.elim (by revert c_15; decide)) (fun c_15 => ?_)
        refine j_aload_n X 0 rfl rfl dX7_then_27 ?_
        refine j_ldc X (v := (-1000000001)) aw_108 dX7_then_28 ?_
        refine j_callVI X (nn := 1) (As := [.int (-1000000001)]) (st := []) (ci := 7) (by decide) (wE_7 _ rfl) rfl aw_117 aw_118 (g_refuse l D y ad M (-1000000001) 1 (by decide) (by decide)) aw_116 aw_119 aw_2 (by decide +kernel) ⟨by decide, by decide⟩ rfl (Nat.le_of_ble_eq_true rfl) ⟨by decide, by decide⟩ dX7_then_30 ?_
        rintro r_ M_17 ⟨rfl, s_16⟩
        exact j_iret X hr hlocks dX7_then_33 (sm_tr sm_rf (sm_w s_16 (by intro b k hb; first | rfl | exact hb | (simp only [Bool.or_eq_false_iff, Bool.and_eq_false_iff, beq_eq_false_iff_ne, ne_eq, decide_eq_false_iff_not] at hb ⊢; omega))))
    · refine j_if_eq X 27 (by decide) dX7_then_15 (fun c_18 => ?_) (fun c_18 => False.elim (by revert c_18; decide))
      refine j_aload_n X 0 rfl rfl dX7_then_27 ?_
      refine j_ldc X (v := (-1000000001)) aw_108 dX7_then_28 ?_
      refine j_callVI X (nn := 1) (As := [.int (-1000000001)]) (st := []) (ci := 7) (by decide) (wE_7 _ rfl) rfl aw_117 aw_118 (g_refuse l D y ad M (-1000000001) 1 (by decide) (by decide)) aw_116 aw_119 aw_2 (by decide +kernel) ⟨by decide, by decide⟩ rfl (Nat.le_of_ble_eq_true rfl) ⟨by decide, by decide⟩ dX7_then_30 ?_
      rintro r_ M_20 ⟨rfl, s_19⟩
      exact j_iret X hr hlocks dX7_then_33 (sm_tr sm_rf (sm_w s_19 (by intro b k hb; first | rfl | exact hb | (simp only [Bool.or_eq_false_iff, Bool.and_eq_false_iff, beq_eq_false_iff_ne, ne_eq, decide_eq_false_iff_not] at hb ⊢; omega))))
  · refine j_if_eq X 27 (by decide) dX7_then_7 (fun c_21 => ?_) (fun c_21 => False.elim (by revert c_21; decide))
    refine j_aload_n X 0 rfl rfl dX7_then_27 ?_
    refine j_ldc X (v := (-1000000001)) aw_108 dX7_then_28 ?_
    refine j_callVI X (nn := 1) (As := [.int (-1000000001)]) (st := []) (ci := 7) (by decide) (wE_7 _ rfl) rfl aw_117 aw_118 (g_refuse l D y ad M (-1000000001) 1 (by decide) (by decide)) aw_116 aw_119 aw_2 (by decide +kernel) ⟨by decide, by decide⟩ rfl (Nat.le_of_ble_eq_true rfl) ⟨by decide, by decide⟩ dX7_then_30 ?_
    rintro r_ M_23 ⟨rfl, s_22⟩
    exact j_iret X hr hlocks dX7_then_33 (sm_tr sm_rf (sm_w s_22 (by intro b k hb; first | rfl | exact hb | (simp only [Bool.or_eq_false_iff, Bool.and_eq_false_iff, beq_eq_false_iff_ne, ne_eq, decide_eq_false_iff_not] at hb ⊢; omega))))
set_option maxRecDepth 100000 in
set_option maxHeartbeats 4000000 in
theorem g_X7_when (l : Launch) (D : va_G) (y : wY) (ad : Nat → Nat) (M : Mem) (n : Nat) (hn : n ≤ 9) (hm : M 12 3 = nI n) (hB : ∀ q, q < 9 → BoolOK (M (14 + q) 6)) (z2 z7 : Nat) (hT2 : TextOK M 2 z2) (hT7 : TextOK M 7 z7) (q : Int32) : MI l D y ad yX7_when (Cond.code yX7_when cX7_when 3 (some .int)) 9 M [.ref (ad 0), .int q] (fun _ M' => sm (fun b _ => b == 6 || b == 11 || b == 78 || (decide (49 ≤ b) && decide (b ≤ 59))) M M') := by
  refine MI_of (by decide) (Nat.le_of_ble_eq_true rfl) ?_
  intro p e s m args below meth c X hr hlocks
  refine j_lv (lv1 := [(0, .ref (ad 0)), (1, .int q)]) [0, 1] rfl ?_
  refine j_aload_n X 0 rfl rfl dX7_when_0 ?_
  refine j_iload_n X 1 rfl rfl dX7_when_1 ?_
  refine j_callVI X (nn := 1) (As := [.int q]) (st := []) (ci := 7) (by decide) (wE_7 _ rfl) rfl aw_191 aw_192 (g_isQuarrel l D y ad M n (by omega) hm q) aw_190 aw_193 aw_2 (by decide +kernel) ⟨by decide, by decide⟩ rfl (Nat.le_of_ble_eq_true rfl) ⟨by decide, by decide⟩ dX7_when_2 ?_
  rintro r_ M1_ (⟨rfl, rfl, h_1⟩ | ⟨rfl, rfl⟩)
  · refine j_if_ne X 15 (by decide) dX7_when_5 (fun c_2 => ?_) (fun c_2 => False.elim (by revert c_2; decide))
    refine j_aload_n X 0 rfl rfl dX7_when_15 ?_
    refine j_callVV X (nn := 0) (As := []) (st := []) (ci := 7) (by decide) (wE_7 _ rfl) rfl aw_534 aw_535 (g_think l D y ad M n (by omega) hm hB) aw_533 aw_536 aw_2 (by decide +kernel) ⟨by decide, by decide⟩ rfl (Nat.le_of_ble_eq_true rfl) ⟨by decide, by decide⟩ dX7_when_16 ?_
    rintro M_4 ⟨s_3, s_3_g, s_3_b⟩
    refine j_iconst X (v := 0) (by decide) dX7_when_19 ?_
    refine j_istore_n X [(2, .int 0), (0, .ref (ad 0)), (1, .int q)] rfl (by decide) rfl dX7_when_20 ?_
    have loop5 : ∀ (n_5 i_5 : Nat) (M5 : Mem), i_5 ≤ 61 → 61 - i_5 < n_5 → sm (fun b k => b == 6 || b == 11 || (b == 49 && (k == 4 || k == 6 || k == 7 || k == 8)) || (decide (51 ≤ b) && decide (b ≤ 59) && (k == 3 || k == 5 || k == 6))) M_4 M5 → J p l e (rmN 9) s m args below meth c 0 0 (QI (fun _ M' => sm (fun b _ => b == 6 || b == 11 || b == 78 || (decide (49 ≤ b) && decide (b ≤ 59))) M M') D y ad M s args below) D y ad (va_A (PL y ad M) s.heap.size) 3 M5 21 [(2, .int (nI i_5)), (0, .ref (ad 0)), (1, .int q)] [] := by
      intro n_5
      induction n_5 with
      | zero => intro i_5 M5 h1 h2; exact absurd h2 (by omega)
      | succ n_5 ih5 =>
        intro i_5 M5 h1i_5 h2i_5 hs5
        refine j_iload_n X 0 rfl rfl dX7_when_21 ?_
        refine j_bipush X (v := 60) (by decide) dX7_when_22 ?_
        refine j_icmp_gt X 58 (by decide) dX7_when_24 (fun c_6 => ?_) (fun c_6 => ?_)
        · refine j_aload_n X 1 rfl rfl dX7_when_58 ?_
          refine j_ldc X (v := (-1000000002)) aw_560 dX7_when_59 ?_
          refine j_callVI X (nn := 1) (As := [.int (-1000000002)]) (st := []) (ci := 7) (by decide) (wE_7 _ rfl) rfl aw_117 aw_118 (g_refuse l D y ad M5 (-1000000002) 2 (by decide) (by decide)) aw_116 aw_119 aw_2 (by decide +kernel) ⟨by decide, by decide⟩ rfl (Nat.le_of_ble_eq_true rfl) ⟨by decide, by decide⟩ dX7_when_61 ?_
          rintro r_ M_8 ⟨rfl, s_7⟩
          exact j_iret X hr hlocks dX7_when_64 (sm_tr (sm_tr (sm_tr sm_rf (sm_w s_3 (by intro b k hb; first | rfl | exact hb | (simp only [Bool.or_eq_false_iff, Bool.and_eq_false_iff, beq_eq_false_iff_ne, ne_eq, decide_eq_false_iff_not] at hb ⊢; omega)))) (sm_w hs5 (by intro b k hb; first | rfl | exact hb | (simp only [Bool.or_eq_false_iff, Bool.and_eq_false_iff, beq_eq_false_iff_ne, ne_eq, decide_eq_false_iff_not] at hb ⊢; omega)))) (sm_w s_7 (by intro b k hb; first | rfl | exact hb | (simp only [Bool.or_eq_false_iff, Bool.and_eq_false_iff, beq_eq_false_iff_ne, ne_eq, decide_eq_false_iff_not] at hb ⊢; omega))))
        · have c_6 : i_5 < 61 := by
            rcases Nat.lt_or_ge i_5 (61) with g | g
            · exact g
            · exact absurd (show nI 60 < nI i_5 from nI_lt (by omega) (by omega)) c_6
          refine j_aload_n X 1 rfl rfl dX7_when_27 ?_
          refine j_get X (by decide) (wE_7 _ rfl) rfl awF7 2 (by decide) aw_21 rfl (v := .ref (ad 49)) rfl dX7_when_28 ?_
          refine j_getN X (by decide) (wE_0 _ rfl) rfl awF0 2 (by decide) (List.mem_of_getElem? (i := 14) rfl) rfl (v := .ref (ad 50)) rfl dX7_when_31 ?_
          refine j_iload_n X 2 rfl rfl dX7_when_34 ?_
          obtain ⟨j_9, hj_9, ej_9⟩ := nI_oft (x := q) (n := 8) (by omega) (by omega) (by decide)
          refine j_eqi (v := nI j_9) ej_9 ?_
          refine j_aald10 X (by decide) rfl (show vp_in (nI j_9) 9 from vp_in_nI (by omega) (by decide)) dX7_when_35 ?_
          refine j_eqr (v := 51 + j_9) (by rw [nI_clamp (by omega)]; exact rf_one49 (by omega)) ?_
          refine j_getN X (by omega) (wE_1 _ (kd_one49 (by omega))) rfl awF1 6 (by decide) (List.mem_of_getElem? (i := 12) rfl) rfl (v := .int (M5 (51 + j_9) 6)) rfl dX7_when_36 ?_
          refine j_if_eq X 44 (by decide) dX7_when_39 (fun c_10 => ?_) (fun c_10 => ?_)
          · have qc_10 := ti_eq (n := 0) (by decide) c_10
            refine j_aload_n X 1 rfl rfl dX7_when_44 ?_
            refine j_get X (by decide) (wE_7 _ rfl) rfl awF7 2 (by decide) aw_21 rfl (v := .ref (ad 49)) rfl dX7_when_45 ?_
            refine j_iconst X (v := 0) (by decide) dX7_when_48 ?_
            refine j_callVNV X (nn := 1) (As := [.int 0]) (st := []) (ci := 0) (by decide) (wE_0 _ rfl) rfl aw_439 aw_440 (g_passDay_49 l D y ad M5 n (by omega) ((hs5 49 3 rfl).trans ((s_3_g 3 (by decide) (by decide)).trans hm)) z2 z7 (TextOK_keep (P := (fun b _ => b == 6 || b == 11 || b == 78 || (decide (49 ≤ b) && decide (b ≤ 59)))) (sm_tr (sm_tr sm_rf (sm_w s_3 (by intro b k hb; first | rfl | exact hb | (simp only [Bool.or_eq_false_iff, Bool.and_eq_false_iff, beq_eq_false_iff_ne, ne_eq, decide_eq_false_iff_not] at hb ⊢; omega)))) (sm_w hs5 (by intro b k hb; first | rfl | exact hb | (simp only [Bool.or_eq_false_iff, Bool.and_eq_false_iff, beq_eq_false_iff_ne, ne_eq, decide_eq_false_iff_not] at hb ⊢; omega)))) (fun _ => rfl) (fun _ => rfl) (fun _ => rfl) (fun _ => rfl) hT2) (TextOK_keep (P := (fun b _ => b == 6 || b == 11 || b == 78 || (decide (49 ≤ b) && decide (b ≤ 59)))) (sm_tr (sm_tr sm_rf (sm_w s_3 (by intro b k hb; first | rfl | exact hb | (simp only [Bool.or_eq_false_iff, Bool.and_eq_false_iff, beq_eq_false_iff_ne, ne_eq, decide_eq_false_iff_not] at hb ⊢; omega)))) (sm_w hs5 (by intro b k hb; first | rfl | exact hb | (simp only [Bool.or_eq_false_iff, Bool.and_eq_false_iff, beq_eq_false_iff_ne, ne_eq, decide_eq_false_iff_not] at hb ⊢; omega)))) (fun _ => rfl) (fun _ => rfl) (fun _ => rfl) (fun _ => rfl) hT7) 0) (List.mem_of_getElem? (i := 27) rfl) aw_441 aw_20 (by decide +kernel) ⟨by decide, by decide⟩ rfl (Nat.le_of_ble_eq_true rfl) ⟨by decide, by decide⟩ dX7_when_49 ?_
            rintro M_12 ⟨s_11, s_11_e⟩
            refine j_iinc X (v := (nI (i_5 + 1))) 0 [(2, .int (nI (i_5 + 1))), (0, .ref (ad 0)), (1, .int q)] rfl (show nI i_5 + Int32.ofInt 1 = _ from nI_1 i_5) (by decide) rfl dX7_when_52 ?_
            refine j_goto X 21 (by decide) dX7_when_55 ?_
            refine j_lv (lv1 := [(2, .int (nI (i_5 + 1))), (0, .ref (ad 0)), (1, .int q)]) [0, 1, 2] rfl ?_
            exact ih5 (i_5 + 1) _ (by omega) (by omega) (sm_tr hs5 (sm_w s_11 (by intro b k hb; first | rfl | exact hb | (simp only [Bool.or_eq_false_iff, Bool.and_eq_false_iff, beq_eq_false_iff_ne, ne_eq, decide_eq_false_iff_not] at hb ⊢; omega))))
          · have qc_10 := ti_ne (n := 0) (by decide) c_10
            refine j_iload_n X 0 rfl rfl dX7_when_42 ?_
            exact j_iret X hr hlocks dX7_when_43 (sm_tr (sm_tr sm_rf (sm_w s_3 (by intro b k hb; first | rfl | exact hb | (simp only [Bool.or_eq_false_iff, Bool.and_eq_false_iff, beq_eq_false_iff_ne, ne_eq, decide_eq_false_iff_not] at hb ⊢; omega)))) (sm_w hs5 (by intro b k hb; first | rfl | exact hb | (simp only [Bool.or_eq_false_iff, Bool.and_eq_false_iff, beq_eq_false_iff_ne, ne_eq, decide_eq_false_iff_not] at hb ⊢; omega))))
    refine j_lv (lv1 := [(2, .int (nI 0)), (0, .ref (ad 0)), (1, .int q)]) [0, 1, 2] rfl ?_
    exact loop5 (61 + 1) 0 _ (by omega) (by omega) sm_rf
  · refine j_if_ne X 15 (by decide) dX7_when_5 (fun c_13 => False.elim (by revert c_13; decide)) (fun c_13 => ?_)
    refine j_aload_n X 0 rfl rfl dX7_when_8 ?_
    refine j_ldc X (v := (-1000000001)) aw_108 dX7_when_9 ?_
    refine j_callVI X (nn := 1) (As := [.int (-1000000001)]) (st := []) (ci := 7) (by decide) (wE_7 _ rfl) rfl aw_117 aw_118 (g_refuse l D y ad M (-1000000001) 1 (by decide) (by decide)) aw_116 aw_119 aw_2 (by decide +kernel) ⟨by decide, by decide⟩ rfl (Nat.le_of_ble_eq_true rfl) ⟨by decide, by decide⟩ dX7_when_11 ?_
    rintro r_ M_15 ⟨rfl, s_14⟩
    exact j_iret X hr hlocks dX7_when_14 (sm_tr sm_rf (sm_w s_14 (by intro b k hb; first | rfl | exact hb | (simp only [Bool.or_eq_false_iff, Bool.and_eq_false_iff, beq_eq_false_iff_ne, ne_eq, decide_eq_false_iff_not] at hb ⊢; omega))))
set_option maxRecDepth 100000 in
set_option maxHeartbeats 4000000 in
theorem g_X7_off (l : Launch) (D : va_G) (y : wY) (ad : Nat → Nat) (M : Mem) (n : Nat) (hn : n ≤ 9) (hm : M 12 3 = nI n) (hB : ∀ q, q < 9 → BoolOK (M (14 + q) 6)) (z2 z7 : Nat) (hT2 : TextOK M 2 z2) (hT7 : TextOK M 7 z7) (nn : Int32) : MI l D y ad yX7_off (Cond.code yX7_off cX7_off 3 (some .int)) 9 M [.ref (ad 0), .int nn] (fun _ M' => sm (fun b _ => b == 6 || b == 11 || b == 78 || (decide (49 ≤ b) && decide (b ≤ 59))) M M') := by
  refine MI_of (by decide) (Nat.le_of_ble_eq_true rfl) ?_
  intro p e s m args below meth c X hr hlocks
  refine j_lv (lv1 := [(0, .ref (ad 0)), (1, .int nn)]) [0, 1] rfl ?_
  refine j_iload_n X 1 rfl rfl dX7_off_0 ?_
  refine j_iconst X (v := 0) (by decide) dX7_off_1 ?_
  refine j_bipush X (v := 60) (by decide) dX7_off_2 ?_
  refine j_callSI X (nn := 3) (As := [.int nn, .int 0, .int 60]) (st := []) aw_110 (g_X7_isWithin l D y ad M nn 0 60 0 60 (by decide) (by decide)) aw_109 aw_111 aw_2 (by decide +kernel) ⟨by decide, by decide⟩ rfl (Nat.le_of_ble_eq_true rfl) ⟨by decide, by decide⟩ dX7_off_4 ?_
  rintro r_ M1_ (⟨rfl, rfl, h_1⟩ | ⟨rfl, rfl, h_1⟩)
  · refine j_if_ne X 17 (by decide) dX7_off_7 (fun c_2 => ?_) (fun c_2 => False.elim (by revert c_2; decide))
    obtain ⟨N, hN, rfl⟩ := nI_oft (x := nn) (n := 60) (by omega) (by omega) (by decide)
    refine j_aload_n X 0 rfl rfl dX7_off_17 ?_
    refine j_callVV X (nn := 0) (As := []) (st := []) (ci := 7) (by decide) (wE_7 _ rfl) rfl aw_534 aw_535 (g_think l D y ad M n (by omega) hm hB) aw_533 aw_536 aw_2 (by decide +kernel) ⟨by decide, by decide⟩ rfl (Nat.le_of_ble_eq_true rfl) ⟨by decide, by decide⟩ dX7_off_18 ?_
    rintro M_4 ⟨s_3, s_3_g, s_3_b⟩
    refine j_aload_n X 0 rfl rfl dX7_off_21 ?_
    refine j_iload_n X 1 rfl rfl dX7_off_22 ?_
    refine j_callVV X (nn := 1) (As := [.int (nI N)]) (st := []) (ci := 7) (by decide) (wE_7 _ rfl) rfl aw_626 aw_627 (g_thinkDaysWithHarm l D y ad M_4 n (by omega) ((s_3_g 3 (by decide) (by decide)).trans hm) z2 z7 (TextOK_keep (P := (fun b _ => b == 6 || b == 11 || b == 78 || (decide (49 ≤ b) && decide (b ≤ 59)))) (sm_tr sm_rf (sm_w s_3 (by intro b k hb; first | rfl | exact hb | (simp only [Bool.or_eq_false_iff, Bool.and_eq_false_iff, beq_eq_false_iff_ne, ne_eq, decide_eq_false_iff_not] at hb ⊢; omega)))) (fun _ => rfl) (fun _ => rfl) (fun _ => rfl) (fun _ => rfl) hT2) (TextOK_keep (P := (fun b _ => b == 6 || b == 11 || b == 78 || (decide (49 ≤ b) && decide (b ≤ 59)))) (sm_tr sm_rf (sm_w s_3 (by intro b k hb; first | rfl | exact hb | (simp only [Bool.or_eq_false_iff, Bool.and_eq_false_iff, beq_eq_false_iff_ne, ne_eq, decide_eq_false_iff_not] at hb ⊢; omega)))) (fun _ => rfl) (fun _ => rfl) (fun _ => rfl) (fun _ => rfl) hT7) N (by omega)) aw_625 aw_628 aw_2 (by decide +kernel) ⟨by decide, by decide⟩ rfl (Nat.le_of_ble_eq_true rfl) ⟨by decide, by decide⟩ dX7_off_23 ?_
    rintro M_6 ⟨s_5, s_5_e⟩
    refine j_aload_n X 0 rfl rfl dX7_off_26 ?_
    refine j_get X (by decide) (wE_7 _ rfl) rfl awF7 2 (by decide) aw_21 rfl (v := .ref (ad 49)) rfl dX7_off_27 ?_
    refine j_getN X (by decide) (wE_0 _ rfl) rfl awF0 7 (by decide) (List.mem_of_getElem? (i := 19) rfl) rfl (v := .int (M_6 49 7)) rfl dX7_off_30 ?_
    refine j_istore_n X [(2, .int (M_6 49 7)), (0, .ref (ad 0)), (1, .int (nI N))] rfl (by decide) rfl dX7_off_33 ?_
    refine j_aload_n X 1 rfl rfl dX7_off_34 ?_
    refine j_callVV X (nn := 0) (As := []) (st := []) (ci := 7) (by decide) (wE_7 _ rfl) rfl aw_534 aw_535 (g_think l D y ad M_6 n (by omega) ((s_5 12 3 rfl).trans ((s_3 12 3 rfl).trans hm)) (bool_keep (P := (fun b _ => b == 6 || b == 11 || b == 78 || (decide (49 ≤ b) && decide (b ≤ 59)))) (sm_tr (sm_tr sm_rf (sm_w s_3 (by intro b k hb; first | rfl | exact hb | (simp only [Bool.or_eq_false_iff, Bool.and_eq_false_iff, beq_eq_false_iff_ne, ne_eq, decide_eq_false_iff_not] at hb ⊢; omega)))) (sm_w s_5 (by intro b k hb; first | rfl | exact hb | (simp only [Bool.or_eq_false_iff, Bool.and_eq_false_iff, beq_eq_false_iff_ne, ne_eq, decide_eq_false_iff_not] at hb ⊢; omega)))) (fun q hq => by first | rfl | (simp; done) | (simp; omega)) hB)) aw_533 aw_536 aw_2 (by decide +kernel) ⟨by decide, by decide⟩ rfl (Nat.le_of_ble_eq_true rfl) ⟨by decide, by decide⟩ dX7_off_35 ?_
    rintro M_8 ⟨s_7, s_7_g, s_7_b⟩
    rcases N with _ | N
    · refine j_iload_n X 2 rfl rfl dX7_off_38 ?_
      refine j_if_le X 57 (by decide) dX7_off_39 (fun c_9 => ?_) (fun c_9 => False.elim (by revert c_9; decide))
      refine j_aload_n X 1 rfl rfl dX7_off_57 ?_
      refine j_get X (by decide) (wE_7 _ rfl) rfl awF7 2 (by decide) aw_21 rfl (v := .ref (ad 49)) rfl dX7_off_58 ?_
      refine j_getN X (by decide) (wE_0 _ rfl) rfl awF0 7 (by decide) (List.mem_of_getElem? (i := 19) rfl) rfl (v := .int (M_8 49 7)) rfl dX7_off_61 ?_
      refine j_eqi (v := M_6 12 7) ((s_7_g 7 (by decide) (by decide)).trans rfl) ?_
      refine j_iload_n X 0 rfl rfl dX7_off_64 ?_
      refine j_isub X dX7_off_65 ?_
      exact j_iret X hr hlocks dX7_off_66 (sm_tr (sm_tr (sm_tr sm_rf (sm_w s_3 (by intro b k hb; first | rfl | exact hb | (simp only [Bool.or_eq_false_iff, Bool.and_eq_false_iff, beq_eq_false_iff_ne, ne_eq, decide_eq_false_iff_not] at hb ⊢; omega)))) (sm_w s_5 (by intro b k hb; first | rfl | exact hb | (simp only [Bool.or_eq_false_iff, Bool.and_eq_false_iff, beq_eq_false_iff_ne, ne_eq, decide_eq_false_iff_not] at hb ⊢; omega)))) (sm_w s_7 (by intro b k hb; first | rfl | exact hb | (simp only [Bool.or_eq_false_iff, Bool.and_eq_false_iff, beq_eq_false_iff_ne, ne_eq, decide_eq_false_iff_not] at hb ⊢; omega))))
    · refine j_iload_n X 2 rfl rfl dX7_off_38 ?_
      refine j_if_le X 57 (by decide) dX7_off_39 (fun c_10 => False.elim (nI_nle (by omega) (by omega) c_10)) (fun c_10 => ?_)
      refine j_aload_n X 1 rfl rfl dX7_off_42 ?_
      refine j_get X (by decide) (wE_7 _ rfl) rfl awF7 2 (by decide) aw_21 rfl (v := .ref (ad 49)) rfl dX7_off_43 ?_
      refine j_iconst X (v := 1) (by decide) dX7_off_46 ?_
      refine j_callVNV X (nn := 1) (As := [.int 1]) (st := []) (ci := 0) (by decide) (wE_0 _ rfl) rfl aw_450 aw_451 (g_restDay_49 l D y ad M_8 n (by omega) ((s_7_g 3 (by decide) (by decide)).trans ((s_5 12 3 rfl).trans ((s_3 12 3 rfl).trans hm))) z2 z7 (TextOK_keep (P := (fun b _ => b == 6 || b == 11 || b == 78 || (decide (49 ≤ b) && decide (b ≤ 59)))) (sm_tr (sm_tr (sm_tr sm_rf (sm_w s_3 (by intro b k hb; first | rfl | exact hb | (simp only [Bool.or_eq_false_iff, Bool.and_eq_false_iff, beq_eq_false_iff_ne, ne_eq, decide_eq_false_iff_not] at hb ⊢; omega)))) (sm_w s_5 (by intro b k hb; first | rfl | exact hb | (simp only [Bool.or_eq_false_iff, Bool.and_eq_false_iff, beq_eq_false_iff_ne, ne_eq, decide_eq_false_iff_not] at hb ⊢; omega)))) (sm_w s_7 (by intro b k hb; first | rfl | exact hb | (simp only [Bool.or_eq_false_iff, Bool.and_eq_false_iff, beq_eq_false_iff_ne, ne_eq, decide_eq_false_iff_not] at hb ⊢; omega)))) (fun _ => rfl) (fun _ => rfl) (fun _ => rfl) (fun _ => rfl) hT2) (TextOK_keep (P := (fun b _ => b == 6 || b == 11 || b == 78 || (decide (49 ≤ b) && decide (b ≤ 59)))) (sm_tr (sm_tr (sm_tr sm_rf (sm_w s_3 (by intro b k hb; first | rfl | exact hb | (simp only [Bool.or_eq_false_iff, Bool.and_eq_false_iff, beq_eq_false_iff_ne, ne_eq, decide_eq_false_iff_not] at hb ⊢; omega)))) (sm_w s_5 (by intro b k hb; first | rfl | exact hb | (simp only [Bool.or_eq_false_iff, Bool.and_eq_false_iff, beq_eq_false_iff_ne, ne_eq, decide_eq_false_iff_not] at hb ⊢; omega)))) (sm_w s_7 (by intro b k hb; first | rfl | exact hb | (simp only [Bool.or_eq_false_iff, Bool.and_eq_false_iff, beq_eq_false_iff_ne, ne_eq, decide_eq_false_iff_not] at hb ⊢; omega)))) (fun _ => rfl) (fun _ => rfl) (fun _ => rfl) (fun _ => rfl) hT7) 1) (List.mem_of_getElem? (i := 40) rfl) aw_452 aw_20 (by decide +kernel) ⟨by decide, by decide⟩ rfl (Nat.le_of_ble_eq_true rfl) ⟨by decide, by decide⟩ dX7_off_47 ?_
      rintro M_12 ⟨s_11, s_11_e⟩
      refine j_aload_n X 1 rfl rfl dX7_off_50 ?_
      refine j_iload_n X 2 rfl rfl dX7_off_51 ?_
      refine j_iconst X (v := 1) (by decide) dX7_off_52 ?_
      refine j_isub X dX7_off_53 ?_
      refine j_eqi (v := nI N) (nI_pred N) ?_
      refine j_callVV X (nn := 1) (As := [.int (nI N)]) (st := []) (ci := 7) (by decide) (wE_7 _ rfl) rfl aw_626 aw_627 (g_thinkDaysWithHarm l D y ad M_12 n (by omega) ((s_11 49 3 rfl).trans ((s_7_g 3 (by decide) (by decide)).trans ((s_5 12 3 rfl).trans ((s_3 12 3 rfl).trans hm)))) z2 z7 (TextOK_keep (P := (fun b _ => b == 6 || b == 11 || b == 78 || (decide (49 ≤ b) && decide (b ≤ 59)))) (sm_tr (sm_tr (sm_tr (sm_tr sm_rf (sm_w s_3 (by intro b k hb; first | rfl | exact hb | (simp only [Bool.or_eq_false_iff, Bool.and_eq_false_iff, beq_eq_false_iff_ne, ne_eq, decide_eq_false_iff_not] at hb ⊢; omega)))) (sm_w s_5 (by intro b k hb; first | rfl | exact hb | (simp only [Bool.or_eq_false_iff, Bool.and_eq_false_iff, beq_eq_false_iff_ne, ne_eq, decide_eq_false_iff_not] at hb ⊢; omega)))) (sm_w s_7 (by intro b k hb; first | rfl | exact hb | (simp only [Bool.or_eq_false_iff, Bool.and_eq_false_iff, beq_eq_false_iff_ne, ne_eq, decide_eq_false_iff_not] at hb ⊢; omega)))) (sm_w s_11 (by intro b k hb; first | rfl | exact hb | (simp only [Bool.or_eq_false_iff, Bool.and_eq_false_iff, beq_eq_false_iff_ne, ne_eq, decide_eq_false_iff_not] at hb ⊢; omega)))) (fun _ => rfl) (fun _ => rfl) (fun _ => rfl) (fun _ => rfl) hT2) (TextOK_keep (P := (fun b _ => b == 6 || b == 11 || b == 78 || (decide (49 ≤ b) && decide (b ≤ 59)))) (sm_tr (sm_tr (sm_tr (sm_tr sm_rf (sm_w s_3 (by intro b k hb; first | rfl | exact hb | (simp only [Bool.or_eq_false_iff, Bool.and_eq_false_iff, beq_eq_false_iff_ne, ne_eq, decide_eq_false_iff_not] at hb ⊢; omega)))) (sm_w s_5 (by intro b k hb; first | rfl | exact hb | (simp only [Bool.or_eq_false_iff, Bool.and_eq_false_iff, beq_eq_false_iff_ne, ne_eq, decide_eq_false_iff_not] at hb ⊢; omega)))) (sm_w s_7 (by intro b k hb; first | rfl | exact hb | (simp only [Bool.or_eq_false_iff, Bool.and_eq_false_iff, beq_eq_false_iff_ne, ne_eq, decide_eq_false_iff_not] at hb ⊢; omega)))) (sm_w s_11 (by intro b k hb; first | rfl | exact hb | (simp only [Bool.or_eq_false_iff, Bool.and_eq_false_iff, beq_eq_false_iff_ne, ne_eq, decide_eq_false_iff_not] at hb ⊢; omega)))) (fun _ => rfl) (fun _ => rfl) (fun _ => rfl) (fun _ => rfl) hT7) N (by omega)) aw_625 aw_628 aw_2 (by decide +kernel) ⟨by decide, by decide⟩ rfl (Nat.le_of_ble_eq_true rfl) ⟨by decide, by decide⟩ dX7_off_54 ?_
      rintro M_14 ⟨s_13, s_13_e⟩
      refine j_aload_n X 1 rfl rfl dX7_off_57 ?_
      refine j_get X (by decide) (wE_7 _ rfl) rfl awF7 2 (by decide) aw_21 rfl (v := .ref (ad 49)) rfl dX7_off_58 ?_
      refine j_getN X (by decide) (wE_0 _ rfl) rfl awF0 7 (by decide) (List.mem_of_getElem? (i := 19) rfl) rfl (v := .int (M_14 49 7)) rfl dX7_off_61 ?_
      refine j_iload_n X 0 rfl rfl dX7_off_64 ?_
      refine j_isub X dX7_off_65 ?_
      exact j_iret X hr hlocks dX7_off_66 (sm_tr (sm_tr (sm_tr (sm_tr (sm_tr sm_rf (sm_w s_3 (by intro b k hb; first | rfl | exact hb | (simp only [Bool.or_eq_false_iff, Bool.and_eq_false_iff, beq_eq_false_iff_ne, ne_eq, decide_eq_false_iff_not] at hb ⊢; omega)))) (sm_w s_5 (by intro b k hb; first | rfl | exact hb | (simp only [Bool.or_eq_false_iff, Bool.and_eq_false_iff, beq_eq_false_iff_ne, ne_eq, decide_eq_false_iff_not] at hb ⊢; omega)))) (sm_w s_7 (by intro b k hb; first | rfl | exact hb | (simp only [Bool.or_eq_false_iff, Bool.and_eq_false_iff, beq_eq_false_iff_ne, ne_eq, decide_eq_false_iff_not] at hb ⊢; omega)))) (sm_w s_11 (by intro b k hb; first | rfl | exact hb | (simp only [Bool.or_eq_false_iff, Bool.and_eq_false_iff, beq_eq_false_iff_ne, ne_eq, decide_eq_false_iff_not] at hb ⊢; omega)))) (sm_w s_13 (by intro b k hb; first | rfl | exact hb | (simp only [Bool.or_eq_false_iff, Bool.and_eq_false_iff, beq_eq_false_iff_ne, ne_eq, decide_eq_false_iff_not] at hb ⊢; omega))))
  · refine j_if_ne X 17 (by decide) dX7_off_7 (fun c_15 => False.elim (by revert c_15; decide)) (fun c_15 => ?_)
    refine j_aload_n X 0 rfl rfl dX7_off_10 ?_
    refine j_ldc X (v := (-1000000001)) aw_108 dX7_off_11 ?_
    refine j_callVI X (nn := 1) (As := [.int (-1000000001)]) (st := []) (ci := 7) (by decide) (wE_7 _ rfl) rfl aw_117 aw_118 (g_refuse l D y ad M (-1000000001) 1 (by decide) (by decide)) aw_116 aw_119 aw_2 (by decide +kernel) ⟨by decide, by decide⟩ rfl (Nat.le_of_ble_eq_true rfl) ⟨by decide, by decide⟩ dX7_off_13 ?_
    rintro r_ M_17 ⟨rfl, s_16⟩
    exact j_iret X hr hlocks dX7_off_16 (sm_tr sm_rf (sm_w s_16 (by intro b k hb; first | rfl | exact hb | (simp only [Bool.or_eq_false_iff, Bool.and_eq_false_iff, beq_eq_false_iff_ne, ne_eq, decide_eq_false_iff_not] at hb ⊢; omega))))
