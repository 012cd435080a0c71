theorem dX8_mostOver_0 : decode cX8_mostOver 0 = .ok (.aload_n 0, 1) := by decide +kernel
theorem dX8_mostOver_1 : decode cX8_mostOver 1 = .ok (.getfield 7, 3) := by decide +kernel
theorem dX8_mostOver_4 : decode cX8_mostOver 4 = .ok (.iload_n 1, 1) := by decide +kernel
theorem dX8_mostOver_5 : decode cX8_mostOver 5 = .ok (.iaload, 1) := by decide +kernel
theorem dX8_mostOver_6 : decode cX8_mostOver 6 = .ok (.istore 4, 2) := by decide +kernel
theorem dX8_mostOver_8 : decode cX8_mostOver 8 = .ok (.iconst 0, 1) := by decide +kernel
theorem dX8_mostOver_9 : decode cX8_mostOver 9 = .ok (.istore 5, 2) := by decide +kernel
theorem dX8_mostOver_11 : decode cX8_mostOver 11 = .ok (.iconst (-1), 1) := by decide +kernel
theorem dX8_mostOver_12 : decode cX8_mostOver 12 = .ok (.istore 6, 2) := by decide +kernel
theorem dX8_mostOver_14 : decode cX8_mostOver 14 = .ok (.iconst 0, 1) := by decide +kernel
theorem dX8_mostOver_15 : decode cX8_mostOver 15 = .ok (.istore 7, 2) := by decide +kernel
theorem dX8_mostOver_17 : decode cX8_mostOver 17 = .ok (.iload 7, 2) := by decide +kernel
theorem dX8_mostOver_19 : decode cX8_mostOver 19 = .ok (.bipush 10, 2) := by decide +kernel
theorem dX8_mostOver_21 : decode cX8_mostOver 21 = .ok (.if_icmp .ge 59, 3) := by decide +kernel
theorem dX8_mostOver_24 : decode cX8_mostOver 24 = .ok (.aload_n 0, 1) := by decide +kernel
theorem dX8_mostOver_25 : decode cX8_mostOver 25 = .ok (.getfield 7, 3) := by decide +kernel
theorem dX8_mostOver_28 : decode cX8_mostOver 28 = .ok (.iload_n 1, 1) := by decide +kernel
theorem dX8_mostOver_29 : decode cX8_mostOver 29 = .ok (.iload 7, 2) := by decide +kernel
theorem dX8_mostOver_31 : decode cX8_mostOver 31 = .ok (.iastore, 1) := by decide +kernel
theorem dX8_mostOver_32 : decode cX8_mostOver 32 = .ok (.aload_n 0, 1) := by decide +kernel
theorem dX8_mostOver_33 : decode cX8_mostOver 33 = .ok (.iload_n 2, 1) := by decide +kernel
theorem dX8_mostOver_34 : decode cX8_mostOver 34 = .ok (.invokevirtual 195, 3) := by decide +kernel
theorem dX8_mostOver_37 : decode cX8_mostOver 37 = .ok (.invokestatic 187, 3) := by decide +kernel
theorem dX8_mostOver_40 : decode cX8_mostOver 40 = .ok (.istore 8, 2) := by decide +kernel
theorem dX8_mostOver_42 : decode cX8_mostOver 42 = .ok (.iload 8, 2) := by decide +kernel
theorem dX8_mostOver_44 : decode cX8_mostOver 44 = .ok (.iload 6, 2) := by decide +kernel
theorem dX8_mostOver_46 : decode cX8_mostOver 46 = .ok (.if_icmp .le 8, 3) := by decide +kernel
theorem dX8_mostOver_49 : decode cX8_mostOver 49 = .ok (.iload 7, 2) := by decide +kernel
theorem dX8_mostOver_51 : decode cX8_mostOver 51 = .ok (.goto 5, 3) := by decide +kernel
theorem dX8_mostOver_56 : decode cX8_mostOver 56 = .ok (.istore 5, 2) := by decide +kernel
theorem dX8_mostOver_58 : decode cX8_mostOver 58 = .ok (.iload 8, 2) := by decide +kernel
theorem dX8_mostOver_60 : decode cX8_mostOver 60 = .ok (.iload 6, 2) := by decide +kernel
theorem dX8_mostOver_62 : decode cX8_mostOver 62 = .ok (.if_icmp .le 8, 3) := by decide +kernel
theorem dX8_mostOver_65 : decode cX8_mostOver 65 = .ok (.iload 8, 2) := by decide +kernel
theorem dX8_mostOver_67 : decode cX8_mostOver 67 = .ok (.goto 5, 3) := by decide +kernel
theorem dX8_mostOver_72 : decode cX8_mostOver 72 = .ok (.istore 6, 2) := by decide +kernel
theorem dX8_mostOver_74 : decode cX8_mostOver 74 = .ok (.iinc 7 1, 3) := by decide +kernel
theorem dX8_mostOver_77 : decode cX8_mostOver 77 = .ok (.goto (-60), 3) := by decide +kernel
theorem dX8_mostOver_80 : decode cX8_mostOver 80 = .ok (.aload_n 0, 1) := by decide +kernel
theorem dX8_mostOver_81 : decode cX8_mostOver 81 = .ok (.getfield 7, 3) := by decide +kernel
theorem dX8_mostOver_84 : decode cX8_mostOver 84 = .ok (.iload_n 1, 1) := by decide +kernel
theorem dX8_mostOver_85 : decode cX8_mostOver 85 = .ok (.iload 4, 2) := by decide +kernel
theorem dX8_mostOver_87 : decode cX8_mostOver 87 = .ok (.iastore, 1) := by decide +kernel
theorem dX8_mostOver_88 : decode cX8_mostOver 88 = .ok (.iload_n 3, 1) := by decide +kernel
theorem dX8_mostOver_89 : decode cX8_mostOver 89 = .ok (.ifCond .ne 8, 3) := by decide +kernel
theorem dX8_mostOver_97 : decode cX8_mostOver 97 = .ok (.iload 6, 2) := by decide +kernel
theorem dX8_mostOver_99 : decode cX8_mostOver 99 = .ok (.ireturn, 1) := by decide +kernel
theorem dX8_mostOver_92 : decode cX8_mostOver 92 = .ok (.iload 5, 2) := by decide +kernel
theorem dX8_mostOver_94 : decode cX8_mostOver 94 = .ok (.goto 5, 3) := by decide +kernel
theorem dX8_mostOver_54 : decode cX8_mostOver 54 = .ok (.iload 5, 2) := by decide +kernel
theorem dX8_mostOver_70 : decode cX8_mostOver 70 = .ok (.iload 6, 2) := by decide +kernel
theorem dX8_start_0 : decode cX8_start 0 = .ok (.iload_n 1, 1) := by decide +kernel
theorem dX8_start_1 : decode cX8_start 1 = .ok (.iconst 0, 1) := by decide +kernel
theorem dX8_start_2 : decode cX8_start 2 = .ok (.bipush 60, 2) := by decide +kernel
theorem dX8_start_4 : decode cX8_start 4 = .ok (.invokestatic 47, 3) := by decide +kernel
theorem dX8_start_7 : decode cX8_start 7 = .ok (.ifCond .eq 23, 3) := by decide +kernel
theorem dX8_start_10 : decode cX8_start 10 = .ok (.iload_n 2, 1) := by decide +kernel
theorem dX8_start_11 : decode cX8_start 11 = .ok (.iconst 0, 1) := by decide +kernel
theorem dX8_start_12 : decode cX8_start 12 = .ok (.iconst 1, 1) := by decide +kernel
theorem dX8_start_13 : decode cX8_start 13 = .ok (.invokestatic 47, 3) := by decide +kernel
theorem dX8_start_16 : decode cX8_start 16 = .ok (.ifCond .eq 14, 3) := by decide +kernel
theorem dX8_start_19 : decode cX8_start 19 = .ok (.aload_n 0, 1) := by decide +kernel
theorem dX8_start_20 : decode cX8_start 20 = .ok (.bipush 7, 2) := by decide +kernel
theorem dX8_start_22 : decode cX8_start 22 = .ok (.iload_n 1, 1) := by decide +kernel
theorem dX8_start_23 : decode cX8_start 23 = .ok (.iload_n 2, 1) := by decide +kernel
theorem dX8_start_24 : decode cX8_start 24 = .ok (.invokevirtual 198, 3) := by decide +kernel
theorem dX8_start_27 : decode cX8_start 27 = .ok (.goto 9, 3) := by decide +kernel
theorem dX8_start_36 : decode cX8_start 36 = .ok (.ireturn, 1) := by decide +kernel
theorem dX8_start_30 : decode cX8_start 30 = .ok (.aload_n 0, 1) := by decide +kernel
theorem dX8_start_31 : decode cX8_start 31 = .ok (.ldc 60, 2) := by decide +kernel
theorem dX8_start_33 : decode cX8_start 33 = .ok (.invokevirtual 61, 3) := by decide +kernel
theorem dX8_pace_0 : decode cX8_pace 0 = .ok (.iload_n 1, 1) := by decide +kernel
theorem dX8_pace_1 : decode cX8_pace 1 = .ok (.iconst 0, 1) := by decide +kernel
theorem dX8_pace_2 : decode cX8_pace 2 = .ok (.bipush 60, 2) := by decide +kernel
theorem dX8_pace_4 : decode cX8_pace 4 = .ok (.invokestatic 47, 3) := by decide +kernel
theorem dX8_pace_7 : decode cX8_pace 7 = .ok (.ifCond .eq 23, 3) := by decide +kernel
theorem dX8_pace_10 : decode cX8_pace 10 = .ok (.iload_n 2, 1) := by decide +kernel
theorem dX8_pace_11 : decode cX8_pace 11 = .ok (.iconst 0, 1) := by decide +kernel
theorem dX8_pace_12 : decode cX8_pace 12 = .ok (.iconst 1, 1) := by decide +kernel
theorem dX8_pace_13 : decode cX8_pace 13 = .ok (.invokestatic 47, 3) := by decide +kernel
theorem dX8_pace_16 : decode cX8_pace 16 = .ok (.ifCond .eq 14, 3) := by decide +kernel
theorem dX8_pace_19 : decode cX8_pace 19 = .ok (.aload_n 0, 1) := by decide +kernel
theorem dX8_pace_20 : decode cX8_pace 20 = .ok (.bipush 8, 2) := by decide +kernel
theorem dX8_pace_22 : decode cX8_pace 22 = .ok (.iload_n 1, 1) := by decide +kernel
theorem dX8_pace_23 : decode cX8_pace 23 = .ok (.iload_n 2, 1) := by decide +kernel
theorem dX8_pace_24 : decode cX8_pace 24 = .ok (.invokevirtual 198, 3) := by decide +kernel
theorem dX8_pace_27 : decode cX8_pace 27 = .ok (.goto 9, 3) := by decide +kernel
theorem dX8_pace_36 : decode cX8_pace 36 = .ok (.ireturn, 1) := by decide +kernel
theorem dX8_pace_30 : decode cX8_pace 30 = .ok (.aload_n 0, 1) := by decide +kernel
theorem dX8_pace_31 : decode cX8_pace 31 = .ok (.ldc 60, 2) := by decide +kernel
theorem dX8_pace_33 : decode cX8_pace 33 = .ok (.invokevirtual 61, 3) := by decide +kernel
theorem dX8_last_0 : decode cX8_last 0 = .ok (.iload_n 1, 1) := by decide +kernel
theorem dX8_last_1 : decode cX8_last 1 = .ok (.iconst 0, 1) := by decide +kernel
theorem dX8_last_2 : decode cX8_last 2 = .ok (.iconst 1, 1) := by decide +kernel
theorem dX8_last_3 : decode cX8_last 3 = .ok (.invokestatic 47, 3) := by decide +kernel
theorem dX8_last_6 : decode cX8_last 6 = .ok (.ifCond .ne 10, 3) := by decide +kernel
theorem dX8_last_16 : decode cX8_last 16 = .ok (.iconst (-1), 1) := by decide +kernel
theorem dX8_last_17 : decode cX8_last 17 = .ok (.istore_n 2, 1) := by decide +kernel
theorem dX8_last_18 : decode cX8_last 18 = .ok (.iconst 0, 1) := by decide +kernel
theorem dX8_last_19 : decode cX8_last 19 = .ok (.istore_n 3, 1) := by decide +kernel
theorem dX8_last_20 : decode cX8_last 20 = .ok (.aload_n 0, 1) := by decide +kernel
theorem dX8_last_21 : decode cX8_last 21 = .ok (.aload_n 0, 1) := by decide +kernel
theorem dX8_last_22 : decode cX8_last 22 = .ok (.getfield 7, 3) := by decide +kernel
theorem dX8_last_25 : decode cX8_last 25 = .ok (.aload_n 0, 1) := by decide +kernel
theorem dX8_last_26 : decode cX8_last 26 = .ok (.getfield 16, 3) := by decide +kernel
theorem dX8_last_29 : decode cX8_last 29 = .ok (.invokevirtual 175, 3) := by decide +kernel
theorem dX8_last_32 : decode cX8_last 32 = .ok (.aload_n 0, 1) := by decide +kernel
theorem dX8_last_33 : decode cX8_last 33 = .ok (.invokevirtual 182, 3) := by decide +kernel
theorem dX8_last_36 : decode cX8_last 36 = .ok (.istore 4, 2) := by decide +kernel
theorem dX8_last_38 : decode cX8_last 38 = .ok (.iconst 1, 1) := by decide +kernel
theorem dX8_last_39 : decode cX8_last 39 = .ok (.istore 5, 2) := by decide +kernel
theorem dX8_last_41 : decode cX8_last 41 = .ok (.iload 5, 2) := by decide +kernel
theorem dX8_last_43 : decode cX8_last 43 = .ok (.bipush 60, 2) := by decide +kernel
theorem dX8_last_45 : decode cX8_last 45 = .ok (.if_icmp .gt 94, 3) := by decide +kernel
theorem dX8_last_139 : decode cX8_last 139 = .ok (.aload_n 0, 1) := by decide +kernel
theorem dX8_last_140 : decode cX8_last 140 = .ok (.aload_n 0, 1) := by decide +kernel
theorem dX8_last_141 : decode cX8_last 141 = .ok (.getfield 16, 3) := by decide +kernel
theorem dX8_last_144 : decode cX8_last 144 = .ok (.aload_n 0, 1) := by decide +kernel
theorem dX8_last_145 : decode cX8_last 145 = .ok (.getfield 7, 3) := by decide +kernel
theorem dX8_last_148 : decode cX8_last 148 = .ok (.invokevirtual 175, 3) := by decide +kernel
theorem dX8_last_151 : decode cX8_last 151 = .ok (.iload_n 2, 1) := by decide +kernel
theorem dX8_last_152 : decode cX8_last 152 = .ok (.ifCond .ge 10, 3) := by decide +kernel
theorem dX8_last_155 : decode cX8_last 155 = .ok (.aload_n 0, 1) := by decide +kernel
theorem dX8_last_156 : decode cX8_last 156 = .ok (.ldc 194, 2) := by decide +kernel
theorem dX8_last_158 : decode cX8_last 158 = .ok (.invokevirtual 61, 3) := by decide +kernel
theorem dX8_last_161 : decode cX8_last 161 = .ok (.ireturn, 1) := by decide +kernel
theorem dX8_last_48 : decode cX8_last 48 = .ok (.aload_n 0, 1) := by decide +kernel
theorem dX8_last_49 : decode cX8_last 49 = .ok (.iconst 1, 1) := by decide +kernel
theorem dX8_last_50 : decode cX8_last 50 = .ok (.invokevirtual 171, 3) := by decide +kernel
theorem dX8_last_53 : decode cX8_last 53 = .ok (.aload_n 0, 1) := by decide +kernel
theorem dX8_last_54 : decode cX8_last 54 = .ok (.invokevirtual 182, 3) := by decide +kernel
theorem dX8_last_57 : decode cX8_last 57 = .ok (.iload 4, 2) := by decide +kernel
theorem dX8_last_59 : decode cX8_last 59 = .ok (.iconst (-1), 1) := by decide +kernel
theorem dX8_last_60 : decode cX8_last 60 = .ok (.ixor, 1) := by decide +kernel
theorem dX8_last_61 : decode cX8_last 61 = .ok (.iand, 1) := by decide +kernel
theorem dX8_last_62 : decode cX8_last 62 = .ok (.istore 6, 2) := by decide +kernel
theorem dX8_last_64 : decode cX8_last 64 = .ok (.iload 4, 2) := by decide +kernel
theorem dX8_last_66 : decode cX8_last 66 = .ok (.iload 6, 2) := by decide +kernel
theorem dX8_last_68 : decode cX8_last 68 = .ok (.ior, 1) := by decide +kernel
theorem dX8_last_69 : decode cX8_last 69 = .ok (.istore 4, 2) := by decide +kernel
theorem dX8_last_71 : decode cX8_last 71 = .ok (.iconst 0, 1) := by decide +kernel
theorem dX8_last_72 : decode cX8_last 72 = .ok (.istore 7, 2) := by decide +kernel
theorem dX8_last_74 : decode cX8_last 74 = .ok (.iload 7, 2) := by decide +kernel
theorem dX8_last_76 : decode cX8_last 76 = .ok (.aload_n 0, 1) := by decide +kernel
theorem dX8_last_77 : decode cX8_last 77 = .ok (.getfield 7, 3) := by decide +kernel
theorem dX8_last_80 : decode cX8_last 80 = .ok (.iconst 2, 1) := by decide +kernel
theorem dX8_last_81 : decode cX8_last 81 = .ok (.iaload, 1) := by decide +kernel
theorem dX8_last_82 : decode cX8_last 82 = .ok (.if_icmp .ge 51, 3) := by decide +kernel
theorem dX8_last_133 : decode cX8_last 133 = .ok (.iinc 5 1, 3) := by decide +kernel
theorem dX8_last_136 : decode cX8_last 136 = .ok (.goto (-95), 3) := by decide +kernel
theorem dX8_last_9 : decode cX8_last 9 = .ok (.aload_n 0, 1) := by decide +kernel
theorem dX8_last_10 : decode cX8_last 10 = .ok (.ldc 60, 2) := by decide +kernel
theorem dX8_last_12 : decode cX8_last 12 = .ok (.invokevirtual 61, 3) := by decide +kernel
theorem dX8_last_15 : decode cX8_last 15 = .ok (.ireturn, 1) := by decide +kernel
theorem dX8_seed_0 : decode cX8_seed 0 = .ok (.aload_n 0, 1) := by decide +kernel
theorem dX8_seed_1 : decode cX8_seed 1 = .ok (.getfield 7, 3) := by decide +kernel
theorem dX8_seed_4 : decode cX8_seed 4 = .ok (.iconst 1, 1) := by decide +kernel
theorem dX8_seed_5 : decode cX8_seed 5 = .ok (.iaload, 1) := by decide +kernel
theorem dX8_seed_6 : decode cX8_seed 6 = .ok (.istore_n 2, 1) := by decide +kernel
theorem dX8_seed_7 : decode cX8_seed 7 = .ok (.aload_n 0, 1) := by decide +kernel
theorem dX8_seed_8 : decode cX8_seed 8 = .ok (.getfield 7, 3) := by decide +kernel
theorem dX8_seed_11 : decode cX8_seed 11 = .ok (.iconst 1, 1) := by decide +kernel
theorem dX8_seed_12 : decode cX8_seed 12 = .ok (.iload_n 1, 1) := by decide +kernel
theorem dX8_seed_13 : decode cX8_seed 13 = .ok (.iastore, 1) := by decide +kernel
theorem dX8_seed_14 : decode cX8_seed 14 = .ok (.iload_n 2, 1) := by decide +kernel
theorem dX8_seed_15 : decode cX8_seed 15 = .ok (.ireturn, 1) := by decide +kernel
theorem dX8_trace_0 : decode cX8_trace 0 = .ok (.iload_n 1, 1) := by decide +kernel
theorem dX8_trace_1 : decode cX8_trace 1 = .ok (.iconst 0, 1) := by decide +kernel
theorem dX8_trace_2 : decode cX8_trace 2 = .ok (.aload_n 0, 1) := by decide +kernel
theorem dX8_trace_3 : decode cX8_trace 3 = .ok (.getfield 214, 3) := by decide +kernel
theorem dX8_trace_6 : decode cX8_trace 6 = .ok (.iconst 1, 1) := by decide +kernel
theorem dX8_trace_7 : decode cX8_trace 7 = .ok (.isub, 1) := by decide +kernel
theorem dX8_trace_8 : decode cX8_trace 8 = .ok (.invokestatic 47, 3) := by decide +kernel
theorem dX8_trace_11 : decode cX8_trace 11 = .ok (.ifCond .eq 12, 3) := by decide +kernel
theorem dX8_trace_23 : decode cX8_trace 23 = .ok (.aload_n 0, 1) := by decide +kernel
theorem dX8_trace_24 : decode cX8_trace 24 = .ok (.ldc 194, 2) := by decide +kernel
theorem dX8_trace_26 : decode cX8_trace 26 = .ok (.invokevirtual 61, 3) := by decide +kernel
theorem dX8_trace_29 : decode cX8_trace 29 = .ok (.ireturn, 1) := by decide +kernel
theorem dX8_restore_0 : decode cX8_restore 0 = .ok (.aload_n 0, 1) := by decide +kernel
theorem dX8_restore_1 : decode cX8_restore 1 = .ok (.getfield 244, 3) := by decide +kernel
theorem dX8_restore_4 : decode cX8_restore 4 = .ok (.ifCond .ne 10, 3) := by decide +kernel
theorem dX8_restore_7 : decode cX8_restore 7 = .ok (.aload_n 0, 1) := by decide +kernel
theorem dX8_restore_8 : decode cX8_restore 8 = .ok (.ldc 194, 2) := by decide +kernel
theorem dX8_restore_10 : decode cX8_restore 10 = .ok (.invokevirtual 61, 3) := by decide +kernel
theorem dX8_restore_13 : decode cX8_restore 13 = .ok (.ireturn, 1) := by decide +kernel
theorem dX8_tell_0 : decode cX8_tell 0 = .ok (.aload_n 0, 1) := by decide +kernel
theorem dX8_tell_1 : decode cX8_tell 1 = .ok (.getfield 7, 3) := by decide +kernel
theorem dX8_tell_4 : decode cX8_tell 4 = .ok (.iconst 4, 1) := by decide +kernel
theorem dX8_tell_5 : decode cX8_tell 5 = .ok (.iaload, 1) := by decide +kernel
theorem dX8_tell_6 : decode cX8_tell 6 = .ok (.bipush 20, 2) := by decide +kernel
theorem dX8_tell_8 : decode cX8_tell 8 = .ok (.if_icmp .ne 10, 3) := by decide +kernel
theorem dX8_tell_18 : decode cX8_tell 18 = .ok (.aload_n 0, 1) := by decide +kernel
theorem dX8_tell_19 : decode cX8_tell 19 = .ok (.getfield 7, 3) := by decide +kernel
theorem dX8_tell_22 : decode cX8_tell 22 = .ok (.bipush 124, 2) := by decide +kernel
theorem dX8_tell_24 : decode cX8_tell 24 = .ok (.aload_n 0, 1) := by decide +kernel
theorem dX8_tell_25 : decode cX8_tell 25 = .ok (.getfield 7, 3) := by decide +kernel
theorem dX8_tell_28 : decode cX8_tell 28 = .ok (.iconst 4, 1) := by decide +kernel
theorem dX8_tell_29 : decode cX8_tell 29 = .ok (.iaload, 1) := by decide +kernel
theorem dX8_tell_30 : decode cX8_tell 30 = .ok (.iadd, 1) := by decide +kernel
theorem dX8_tell_31 : decode cX8_tell 31 = .ok (.iload_n 1, 1) := by decide +kernel
theorem dX8_tell_32 : decode cX8_tell 32 = .ok (.iastore, 1) := by decide +kernel
theorem dX8_tell_33 : decode cX8_tell 33 = .ok (.aload_n 0, 1) := by decide +kernel
theorem dX8_tell_34 : decode cX8_tell 34 = .ok (.getfield 7, 3) := by decide +kernel
theorem dX8_tell_37 : decode cX8_tell 37 = .ok (.iconst 4, 1) := by decide +kernel
theorem dX8_tell_38 : decode cX8_tell 38 = .ok (.dup2, 1) := by decide +kernel
theorem dX8_tell_39 : decode cX8_tell 39 = .ok (.iaload, 1) := by decide +kernel
theorem dX8_tell_40 : decode cX8_tell 40 = .ok (.iconst 1, 1) := by decide +kernel
theorem dX8_tell_41 : decode cX8_tell 41 = .ok (.iadd, 1) := by decide +kernel
theorem dX8_tell_42 : decode cX8_tell 42 = .ok (.iastore, 1) := by decide +kernel
theorem dX8_tell_43 : decode cX8_tell 43 = .ok (.aload_n 0, 1) := by decide +kernel
theorem dX8_tell_44 : decode cX8_tell 44 = .ok (.getfield 7, 3) := by decide +kernel
theorem dX8_tell_47 : decode cX8_tell 47 = .ok (.iconst 4, 1) := by decide +kernel
theorem dX8_tell_48 : decode cX8_tell 48 = .ok (.iaload, 1) := by decide +kernel
theorem dX8_tell_49 : decode cX8_tell 49 = .ok (.ireturn, 1) := by decide +kernel
theorem dX8_count_0 : decode cX8_count 0 = .ok (.iload_n 1, 1) := by decide +kernel
theorem dX8_count_1 : decode cX8_count 1 = .ok (.tableswitch 145 0 11 #[63, 70, 77, 85, 93, 101, 109, 114, 119, 126, 133, 138], 63) := by decide +kernel
theorem dX8_count_64 : decode cX8_count 64 = .ok (.aload_n 0, 1) := by decide +kernel
theorem dX8_count_65 : decode cX8_count 65 = .ok (.getfield 7, 3) := by decide +kernel
theorem dX8_count_68 : decode cX8_count 68 = .ok (.iconst 2, 1) := by decide +kernel
theorem dX8_count_69 : decode cX8_count 69 = .ok (.iaload, 1) := by decide +kernel
theorem dX8_count_70 : decode cX8_count 70 = .ok (.ireturn, 1) := by decide +kernel
theorem dX8_count_71 : decode cX8_count 71 = .ok (.aload_n 0, 1) := by decide +kernel
theorem dX8_count_72 : decode cX8_count 72 = .ok (.getfield 7, 3) := by decide +kernel
theorem dX8_count_75 : decode cX8_count 75 = .ok (.iconst 0, 1) := by decide +kernel
theorem dX8_count_76 : decode cX8_count 76 = .ok (.iaload, 1) := by decide +kernel
theorem dX8_count_77 : decode cX8_count 77 = .ok (.ireturn, 1) := by decide +kernel
theorem dX8_count_78 : decode cX8_count 78 = .ok (.aload_n 0, 1) := by decide +kernel
theorem dX8_count_79 : decode cX8_count 79 = .ok (.getfield 7, 3) := by decide +kernel
theorem dX8_count_82 : decode cX8_count 82 = .ok (.bipush 7, 2) := by decide +kernel
theorem dX8_count_84 : decode cX8_count 84 = .ok (.iaload, 1) := by decide +kernel
theorem dX8_count_85 : decode cX8_count 85 = .ok (.ireturn, 1) := by decide +kernel
theorem dX8_count_86 : decode cX8_count 86 = .ok (.aload_n 0, 1) := by decide +kernel
theorem dX8_count_87 : decode cX8_count 87 = .ok (.getfield 7, 3) := by decide +kernel
theorem dX8_count_90 : decode cX8_count 90 = .ok (.bipush 8, 2) := by decide +kernel
theorem dX8_count_92 : decode cX8_count 92 = .ok (.iaload, 1) := by decide +kernel
theorem dX8_count_93 : decode cX8_count 93 = .ok (.ireturn, 1) := by decide +kernel
theorem dX8_count_94 : decode cX8_count 94 = .ok (.aload_n 0, 1) := by decide +kernel
theorem dX8_count_95 : decode cX8_count 95 = .ok (.getfield 7, 3) := by decide +kernel
theorem dX8_count_98 : decode cX8_count 98 = .ok (.bipush 9, 2) := by decide +kernel
theorem dX8_count_100 : decode cX8_count 100 = .ok (.iaload, 1) := by decide +kernel
theorem dX8_count_101 : decode cX8_count 101 = .ok (.ireturn, 1) := by decide +kernel
theorem dX8_count_102 : decode cX8_count 102 = .ok (.aload_n 0, 1) := by decide +kernel
theorem dX8_count_103 : decode cX8_count 103 = .ok (.getfield 7, 3) := by decide +kernel
theorem dX8_count_106 : decode cX8_count 106 = .ok (.bipush 10, 2) := by decide +kernel
theorem dX8_count_108 : decode cX8_count 108 = .ok (.iaload, 1) := by decide +kernel
theorem dX8_count_109 : decode cX8_count 109 = .ok (.ireturn, 1) := by decide +kernel
theorem dX8_count_110 : decode cX8_count 110 = .ok (.aload_n 0, 1) := by decide +kernel
theorem dX8_count_111 : decode cX8_count 111 = .ok (.invokevirtual 182, 3) := by decide +kernel
theorem dX8_count_114 : decode cX8_count 114 = .ok (.ireturn, 1) := by decide +kernel
theorem dX8_count_115 : decode cX8_count 115 = .ok (.aload_n 0, 1) := by decide +kernel
theorem dX8_count_116 : decode cX8_count 116 = .ok (.invokevirtual 250, 3) := by decide +kernel
theorem dX8_count_119 : decode cX8_count 119 = .ok (.ireturn, 1) := by decide +kernel
theorem dX8_count_120 : decode cX8_count 120 = .ok (.aload_n 0, 1) := by decide +kernel
theorem dX8_count_121 : decode cX8_count 121 = .ok (.getfield 7, 3) := by decide +kernel
theorem dX8_count_124 : decode cX8_count 124 = .ok (.iconst 3, 1) := by decide +kernel
theorem dX8_count_125 : decode cX8_count 125 = .ok (.iaload, 1) := by decide +kernel
theorem dX8_count_126 : decode cX8_count 126 = .ok (.ireturn, 1) := by decide +kernel
theorem dX8_count_127 : decode cX8_count 127 = .ok (.aload_n 0, 1) := by decide +kernel
theorem dX8_count_128 : decode cX8_count 128 = .ok (.getfield 7, 3) := by decide +kernel
theorem dX8_count_131 : decode cX8_count 131 = .ok (.iconst 4, 1) := by decide +kernel
theorem dX8_count_132 : decode cX8_count 132 = .ok (.iaload, 1) := by decide +kernel
theorem dX8_count_133 : decode cX8_count 133 = .ok (.ireturn, 1) := by decide +kernel
theorem dX8_count_134 : decode cX8_count 134 = .ok (.aload_n 0, 1) := by decide +kernel
theorem dX8_count_135 : decode cX8_count 135 = .ok (.getfield 214, 3) := by decide +kernel
theorem dX8_count_138 : decode cX8_count 138 = .ok (.ireturn, 1) := by decide +kernel
theorem dX8_count_139 : decode cX8_count 139 = .ok (.aload_n 0, 1) := by decide +kernel
theorem dX8_count_140 : decode cX8_count 140 = .ok (.getfield 7, 3) := by decide +kernel
theorem dX8_count_143 : decode cX8_count 143 = .ok (.iconst 1, 1) := by decide +kernel
theorem dX8_count_144 : decode cX8_count 144 = .ok (.iaload, 1) := by decide +kernel
theorem dX8_count_145 : decode cX8_count 145 = .ok (.ireturn, 1) := by decide +kernel
theorem dX8_count_146 : decode cX8_count 146 = .ok (.aload_n 0, 1) := by decide +kernel
theorem dX8_count_147 : decode cX8_count 147 = .ok (.ldc 60, 2) := by decide +kernel
theorem dX8_count_149 : decode cX8_count 149 = .ok (.invokevirtual 61, 3) := by decide +kernel
theorem dX8_count_152 : decode cX8_count 152 = .ok (.ireturn, 1) := by decide +kernel
theorem dX8_check_0 : decode cX8_check 0 = .ok (.aload_n 0, 1) := by decide +kernel
theorem dX8_check_1 : decode cX8_check 1 = .ok (.getfield 7, 3) := by decide +kernel
theorem dX8_check_4 : decode cX8_check 4 = .ok (.iconst 4, 1) := by decide +kernel
theorem dX8_check_5 : decode cX8_check 5 = .ok (.iaload, 1) := by decide +kernel
theorem dX8_check_6 : decode cX8_check 6 = .ok (.istore_n 1, 1) := by decide +kernel
theorem dX8_check_7 : decode cX8_check 7 = .ok (.aload_n 0, 1) := by decide +kernel
theorem dX8_check_8 : decode cX8_check 8 = .ok (.getfield 7, 3) := by decide +kernel
theorem dX8_check_11 : decode cX8_check 11 = .ok (.iconst 4, 1) := by decide +kernel
theorem dX8_check_12 : decode cX8_check 12 = .ok (.iconst 0, 1) := by decide +kernel
theorem dX8_check_13 : decode cX8_check 13 = .ok (.iastore, 1) := by decide +kernel
theorem dX8_check_14 : decode cX8_check 14 = .ok (.aload_n 0, 1) := by decide +kernel
theorem dX8_check_15 : decode cX8_check 15 = .ok (.aload_n 0, 1) := by decide +kernel
theorem dX8_check_16 : decode cX8_check 16 = .ok (.getfield 7, 3) := by decide +kernel
theorem dX8_check_19 : decode cX8_check 19 = .ok (.aload_n 0, 1) := by decide +kernel
theorem dX8_check_20 : decode cX8_check 20 = .ok (.getfield 16, 3) := by decide +kernel
theorem dX8_check_23 : decode cX8_check 23 = .ok (.invokevirtual 175, 3) := by decide +kernel
theorem dX8_check_26 : decode cX8_check 26 = .ok (.iconst 0, 1) := by decide +kernel
theorem dX8_check_27 : decode cX8_check 27 = .ok (.istore_n 2, 1) := by decide +kernel
theorem dX8_check_28 : decode cX8_check 28 = .ok (.iconst 1, 1) := by decide +kernel
theorem dX8_check_29 : decode cX8_check 29 = .ok (.istore_n 3, 1) := by decide +kernel
theorem dX8_check_30 : decode cX8_check 30 = .ok (.iload_n 2, 1) := by decide +kernel
theorem dX8_check_31 : decode cX8_check 31 = .ok (.iload_n 1, 1) := by decide +kernel
theorem dX8_check_32 : decode cX8_check 32 = .ok (.if_icmp .ge 52, 3) := by decide +kernel
theorem dX8_check_84 : decode cX8_check 84 = .ok (.aload_n 0, 1) := by decide +kernel
theorem dX8_check_85 : decode cX8_check 85 = .ok (.aload_n 0, 1) := by decide +kernel
theorem dX8_check_86 : decode cX8_check 86 = .ok (.getfield 16, 3) := by decide +kernel
theorem dX8_check_89 : decode cX8_check 89 = .ok (.aload_n 0, 1) := by decide +kernel
theorem dX8_check_90 : decode cX8_check 90 = .ok (.getfield 7, 3) := by decide +kernel
theorem dX8_check_93 : decode cX8_check 93 = .ok (.invokevirtual 175, 3) := by decide +kernel
theorem dX8_check_96 : decode cX8_check 96 = .ok (.iload_n 3, 1) := by decide +kernel
theorem dX8_check_97 : decode cX8_check 97 = .ok (.ifCond .eq 7, 3) := by decide +kernel
theorem dX8_check_100 : decode cX8_check 100 = .ok (.iconst 0, 1) := by decide +kernel
theorem dX8_check_101 : decode cX8_check 101 = .ok (.goto 6, 3) := by decide +kernel
theorem dX8_check_107 : decode cX8_check 107 = .ok (.ireturn, 1) := by decide +kernel
theorem dX8_told_0 : decode cX8_told 0 = .ok (.iload_n 1, 1) := by decide +kernel
theorem dX8_told_1 : decode cX8_told 1 = .ok (.iconst 1, 1) := by decide +kernel
theorem dX8_told_2 : decode cX8_told 2 = .ok (.iconst 5, 1) := by decide +kernel
theorem dX8_told_3 : decode cX8_told 3 = .ok (.invokestatic 47, 3) := by decide +kernel
theorem dX8_told_6 : decode cX8_told 6 = .ok (.ifCond .eq 12, 3) := by decide +kernel
theorem dX8_told_9 : decode cX8_told 9 = .ok (.aload_n 0, 1) := by decide +kernel
theorem dX8_told_10 : decode cX8_told 10 = .ok (.getfield 19, 3) := by decide +kernel
theorem dX8_told_13 : decode cX8_told 13 = .ok (.iload_n 1, 1) := by decide +kernel
theorem dX8_told_14 : decode cX8_told 14 = .ok (.iaload, 1) := by decide +kernel
theorem dX8_told_15 : decode cX8_told 15 = .ok (.goto 9, 3) := by decide +kernel
theorem dX8_told_24 : decode cX8_told 24 = .ok (.ireturn, 1) := by decide +kernel
theorem dX8_told_18 : decode cX8_told 18 = .ok (.aload_n 0, 1) := by decide +kernel
theorem dX8_told_19 : decode cX8_told 19 = .ok (.ldc 60, 2) := by decide +kernel
theorem dX8_told_21 : decode cX8_told 21 = .ok (.invokevirtual 61, 3) := by decide +kernel
theorem dX8_put_0 : decode cX8_put 0 = .ok (.iload_n 1, 1) := by decide +kernel
theorem dX8_put_1 : decode cX8_put 1 = .ok (.invokestatic 205, 3) := by decide +kernel
theorem dX8_put_4 : decode cX8_put 4 = .ok (.ifCond .ne 10, 3) := by decide +kernel
theorem dX8_put_14 : decode cX8_put 14 = .ok (.aload_n 0, 1) := by decide +kernel
theorem dX8_put_15 : decode cX8_put 15 = .ok (.getfield 31, 3) := by decide +kernel
theorem dX8_put_18 : decode cX8_put 18 = .ok (.iload_n 1, 1) := by decide +kernel
theorem dX8_put_19 : decode cX8_put 19 = .ok (.iaload, 1) := by decide +kernel
theorem dX8_put_20 : decode cX8_put 20 = .ok (.ifCond .ne 10, 3) := by decide +kernel
theorem dX8_put_23 : decode cX8_put 23 = .ok (.aload_n 0, 1) := by decide +kernel
theorem dX8_put_24 : decode cX8_put 24 = .ok (.ldc 194, 2) := by decide +kernel
theorem dX8_put_26 : decode cX8_put 26 = .ok (.invokevirtual 61, 3) := by decide +kernel
theorem dX8_put_29 : decode cX8_put 29 = .ok (.ireturn, 1) := by decide +kernel
theorem dX8_put_7 : decode cX8_put 7 = .ok (.aload_n 0, 1) := by decide +kernel
theorem dX8_put_8 : decode cX8_put 8 = .ok (.ldc 60, 2) := by decide +kernel
theorem dX8_put_10 : decode cX8_put 10 = .ok (.invokevirtual 61, 3) := by decide +kernel
theorem dX8_put_13 : decode cX8_put 13 = .ok (.ireturn, 1) := by decide +kernel
theorem dX8_edges_0 : decode cX8_edges 0 = .ok (.iload_n 1, 1) := by decide +kernel
theorem dX8_edges_1 : decode cX8_edges 1 = .ok (.invokestatic 205, 3) := by decide +kernel
theorem dX8_edges_4 : decode cX8_edges 4 = .ok (.ifCond .ne 10, 3) := by decide +kernel
theorem dX8_edges_14 : decode cX8_edges 14 = .ok (.aload_n 0, 1) := by decide +kernel
theorem dX8_edges_15 : decode cX8_edges 15 = .ok (.getfield 31, 3) := by decide +kernel
theorem dX8_edges_18 : decode cX8_edges 18 = .ok (.iload_n 1, 1) := by decide +kernel
theorem dX8_edges_19 : decode cX8_edges 19 = .ok (.iaload, 1) := by decide +kernel
theorem dX8_edges_20 : decode cX8_edges 20 = .ok (.ifCond .ne 10, 3) := by decide +kernel
theorem dX8_edges_23 : decode cX8_edges 23 = .ok (.aload_n 0, 1) := by decide +kernel
theorem dX8_edges_24 : decode cX8_edges 24 = .ok (.ldc 194, 2) := by decide +kernel
theorem dX8_edges_26 : decode cX8_edges 26 = .ok (.invokevirtual 61, 3) := by decide +kernel
theorem dX8_edges_29 : decode cX8_edges 29 = .ok (.ireturn, 1) := by decide +kernel
theorem dX8_edges_7 : decode cX8_edges 7 = .ok (.aload_n 0, 1) := by decide +kernel
theorem dX8_edges_8 : decode cX8_edges 8 = .ok (.ldc 60, 2) := by decide +kernel
theorem dX8_edges_10 : decode cX8_edges 10 = .ok (.invokevirtual 61, 3) := by decide +kernel
theorem dX8_edges_13 : decode cX8_edges 13 = .ok (.ireturn, 1) := by decide +kernel
theorem dX8_judge_0 : decode cX8_judge 0 = .ok (.iload_n 1, 1) := by decide +kernel
theorem dX8_judge_1 : decode cX8_judge 1 = .ok (.invokestatic 205, 3) := by decide +kernel
theorem dX8_judge_4 : decode cX8_judge 4 = .ok (.ifCond .ne 10, 3) := by decide +kernel
theorem dX8_judge_14 : decode cX8_judge 14 = .ok (.aload_n 0, 1) := by decide +kernel
theorem dX8_judge_15 : decode cX8_judge 15 = .ok (.getfield 31, 3) := by decide +kernel
theorem dX8_judge_18 : decode cX8_judge 18 = .ok (.iload_n 1, 1) := by decide +kernel
theorem dX8_judge_19 : decode cX8_judge 19 = .ok (.iaload, 1) := by decide +kernel
theorem dX8_judge_20 : decode cX8_judge 20 = .ok (.ifCond .ne 10, 3) := by decide +kernel
theorem dX8_judge_23 : decode cX8_judge 23 = .ok (.aload_n 0, 1) := by decide +kernel
theorem dX8_judge_24 : decode cX8_judge 24 = .ok (.ldc 194, 2) := by decide +kernel
theorem dX8_judge_26 : decode cX8_judge 26 = .ok (.invokevirtual 61, 3) := by decide +kernel
theorem dX8_judge_29 : decode cX8_judge 29 = .ok (.ireturn, 1) := by decide +kernel
theorem dX8_judge_7 : decode cX8_judge 7 = .ok (.aload_n 0, 1) := by decide +kernel
theorem dX8_judge_8 : decode cX8_judge 8 = .ok (.ldc 60, 2) := by decide +kernel
theorem dX8_judge_10 : decode cX8_judge 10 = .ok (.invokevirtual 61, 3) := by decide +kernel
theorem dX8_judge_13 : decode cX8_judge 13 = .ok (.ireturn, 1) := by decide +kernel
theorem dX8_sparks_0 : decode cX8_sparks 0 = .ok (.iload_n 1, 1) := by decide +kernel
theorem dX8_sparks_1 : decode cX8_sparks 1 = .ok (.invokestatic 205, 3) := by decide +kernel
theorem dX8_sparks_4 : decode cX8_sparks 4 = .ok (.ifCond .eq 12, 3) := by decide +kernel
theorem dX8_sparks_7 : decode cX8_sparks 7 = .ok (.iload_n 2, 1) := by decide +kernel
theorem dX8_sparks_8 : decode cX8_sparks 8 = .ok (.iconst 0, 1) := by decide +kernel
theorem dX8_sparks_9 : decode cX8_sparks 9 = .ok (.iconst 1, 1) := by decide +kernel
theorem dX8_sparks_10 : decode cX8_sparks 10 = .ok (.invokestatic 47, 3) := by decide +kernel
theorem dX8_sparks_13 : decode cX8_sparks 13 = .ok (.ifCond .ne 10, 3) := by decide +kernel
theorem dX8_sparks_23 : decode cX8_sparks 23 = .ok (.aload_n 0, 1) := by decide +kernel
theorem dX8_sparks_24 : decode cX8_sparks 24 = .ok (.getfield 31, 3) := by decide +kernel
theorem dX8_sparks_27 : decode cX8_sparks 27 = .ok (.iload_n 1, 1) := by decide +kernel
theorem dX8_sparks_28 : decode cX8_sparks 28 = .ok (.iaload, 1) := by decide +kernel
theorem dX8_sparks_29 : decode cX8_sparks 29 = .ok (.ifCond .eq 18, 3) := by decide +kernel
theorem dX8_sparks_47 : decode cX8_sparks 47 = .ok (.aload_n 0, 1) := by decide +kernel
theorem dX8_sparks_48 : decode cX8_sparks 48 = .ok (.ldc 194, 2) := by decide +kernel
theorem dX8_sparks_50 : decode cX8_sparks 50 = .ok (.invokevirtual 61, 3) := by decide +kernel
theorem dX8_sparks_53 : decode cX8_sparks 53 = .ok (.ireturn, 1) := by decide +kernel
theorem dX8_sparks_16 : decode cX8_sparks 16 = .ok (.aload_n 0, 1) := by decide +kernel
theorem dX8_sparks_17 : decode cX8_sparks 17 = .ok (.ldc 60, 2) := by decide +kernel
theorem dX8_sparks_19 : decode cX8_sparks 19 = .ok (.invokevirtual 61, 3) := by decide +kernel
theorem dX8_sparks_22 : decode cX8_sparks 22 = .ok (.ireturn, 1) := by decide +kernel
theorem dX8_move_0 : decode cX8_move 0 = .ok (.iload_n 1, 1) := by decide +kernel
theorem dX8_move_1 : decode cX8_move 1 = .ok (.invokestatic 205, 3) := by decide +kernel
theorem dX8_move_4 : decode cX8_move 4 = .ok (.ifCond .eq 10, 3) := by decide +kernel
theorem dX8_move_7 : decode cX8_move 7 = .ok (.iload_n 3, 1) := by decide +kernel
theorem dX8_move_8 : decode cX8_move 8 = .ok (.invokestatic 205, 3) := by decide +kernel
theorem dX8_move_11 : decode cX8_move 11 = .ok (.ifCond .ne 10, 3) := by decide +kernel
theorem dX8_move_21 : decode cX8_move 21 = .ok (.aload_n 0, 1) := by decide +kernel
theorem dX8_move_22 : decode cX8_move 22 = .ok (.getfield 31, 3) := by decide +kernel
theorem dX8_move_25 : decode cX8_move 25 = .ok (.iload_n 1, 1) := by decide +kernel
theorem dX8_move_26 : decode cX8_move 26 = .ok (.iaload, 1) := by decide +kernel
theorem dX8_move_27 : decode cX8_move 27 = .ok (.ifCond .eq 12, 3) := by decide +kernel
theorem dX8_move_39 : decode cX8_move 39 = .ok (.aload_n 0, 1) := by decide +kernel
theorem dX8_move_40 : decode cX8_move 40 = .ok (.ldc 194, 2) := by decide +kernel
theorem dX8_move_42 : decode cX8_move 42 = .ok (.invokevirtual 61, 3) := by decide +kernel
theorem dX8_move_45 : decode cX8_move 45 = .ok (.ireturn, 1) := by decide +kernel
theorem dX8_move_14 : decode cX8_move 14 = .ok (.aload_n 0, 1) := by decide +kernel
theorem dX8_move_15 : decode cX8_move 15 = .ok (.ldc 60, 2) := by decide +kernel
theorem dX8_move_17 : decode cX8_move 17 = .ok (.invokevirtual 61, 3) := by decide +kernel
theorem dX8_move_20 : decode cX8_move 20 = .ok (.ireturn, 1) := by decide +kernel
theorem dX8_sheet_0 : decode cX8_sheet 0 = .ok (.iload_n 1, 1) := by decide +kernel
theorem dX8_sheet_1 : decode cX8_sheet 1 = .ok (.invokestatic 205, 3) := by decide +kernel
theorem dX8_sheet_4 : decode cX8_sheet 4 = .ok (.ifCond .eq 25, 3) := by decide +kernel
theorem dX8_sheet_7 : decode cX8_sheet 7 = .ok (.iload_n 2, 1) := by decide +kernel
theorem dX8_sheet_8 : decode cX8_sheet 8 = .ok (.ifCond .eq 28, 3) := by decide +kernel
theorem dX8_sheet_36 : decode cX8_sheet 36 = .ok (.iload_n 2, 1) := by decide +kernel
theorem dX8_sheet_37 : decode cX8_sheet 37 = .ok (.ifCond .eq 14, 3) := by decide +kernel
theorem dX8_sheet_51 : decode cX8_sheet 51 = .ok (.iload_n 2, 1) := by decide +kernel
theorem dX8_sheet_52 : decode cX8_sheet 52 = .ok (.ifCond .eq 16, 3) := by decide +kernel
theorem dX8_sheet_68 : decode cX8_sheet 68 = .ok (.aload_n 0, 1) := by decide +kernel
theorem dX8_sheet_69 : decode cX8_sheet 69 = .ok (.getfield 31, 3) := by decide +kernel
theorem dX8_sheet_72 : decode cX8_sheet 72 = .ok (.iload_n 1, 1) := by decide +kernel
theorem dX8_sheet_73 : decode cX8_sheet 73 = .ok (.iload_n 2, 1) := by decide +kernel
theorem dX8_sheet_74 : decode cX8_sheet 74 = .ok (.iastore, 1) := by decide +kernel
theorem dX8_sheet_75 : decode cX8_sheet 75 = .ok (.aload_n 0, 1) := by decide +kernel
theorem dX8_sheet_76 : decode cX8_sheet 76 = .ok (.getfield 34, 3) := by decide +kernel
theorem dX8_sheet_79 : decode cX8_sheet 79 = .ok (.iload_n 1, 1) := by decide +kernel
theorem dX8_sheet_80 : decode cX8_sheet 80 = .ok (.iload_n 2, 1) := by decide +kernel
theorem dX8_sheet_81 : decode cX8_sheet 81 = .ok (.ifCond .ne 7, 3) := by decide +kernel
theorem dX8_sheet_84 : decode cX8_sheet 84 = .ok (.iconst 0, 1) := by decide +kernel
theorem dX8_sheet_85 : decode cX8_sheet 85 = .ok (.goto 4, 3) := by decide +kernel
theorem dX8_sheet_89 : decode cX8_sheet 89 = .ok (.iastore, 1) := by decide +kernel
theorem dX8_sheet_90 : decode cX8_sheet 90 = .ok (.iconst 0, 1) := by decide +kernel
theorem dX8_sheet_91 : decode cX8_sheet 91 = .ok (.istore 4, 2) := by decide +kernel
theorem dX8_sheet_93 : decode cX8_sheet 93 = .ok (.iload 4, 2) := by decide +kernel
theorem dX8_sheet_95 : decode cX8_sheet 95 = .ok (.bipush 40, 2) := by decide +kernel
theorem dX8_sheet_97 : decode cX8_sheet 97 = .ok (.if_icmp .ge 22, 3) := by decide +kernel
theorem dX8_sheet_119 : decode cX8_sheet 119 = .ok (.iconst 1, 1) := by decide +kernel
theorem dX8_sheet_120 : decode cX8_sheet 120 = .ok (.ireturn, 1) := by decide +kernel
theorem dX8_sheet_100 : decode cX8_sheet 100 = .ok (.aload_n 0, 1) := by decide +kernel
theorem dX8_sheet_101 : decode cX8_sheet 101 = .ok (.getfield 37, 3) := by decide +kernel
theorem dX8_sheet_104 : decode cX8_sheet 104 = .ok (.bipush 40, 2) := by decide +kernel
theorem dX8_sheet_106 : decode cX8_sheet 106 = .ok (.iload_n 1, 1) := by decide +kernel
theorem dX8_sheet_107 : decode cX8_sheet 107 = .ok (.imul, 1) := by decide +kernel
theorem dX8_sheet_108 : decode cX8_sheet 108 = .ok (.iload 4, 2) := by decide +kernel
theorem dX8_sheet_110 : decode cX8_sheet 110 = .ok (.iadd, 1) := by decide +kernel
theorem dX8_sheet_111 : decode cX8_sheet 111 = .ok (.iconst 0, 1) := by decide +kernel
theorem dX8_sheet_112 : decode cX8_sheet 112 = .ok (.iastore, 1) := by decide +kernel
theorem dX8_sheet_113 : decode cX8_sheet 113 = .ok (.iinc 4 1, 3) := by decide +kernel
theorem dX8_sheet_116 : decode cX8_sheet 116 = .ok (.goto (-23), 3) := by decide +kernel
theorem dX8_sheet_11 : decode cX8_sheet 11 = .ok (.iload_n 2, 1) := by decide +kernel
theorem dX8_sheet_12 : decode cX8_sheet 12 = .ok (.bipush 8, 2) := by decide +kernel
theorem dX8_sheet_14 : decode cX8_sheet 14 = .ok (.if_icmp .eq 22, 3) := by decide +kernel
theorem dX8_sheet_40 : decode cX8_sheet 40 = .ok (.iload_n 3, 1) := by decide +kernel
theorem dX8_sheet_41 : decode cX8_sheet 41 = .ok (.ifCond .ge 10, 3) := by decide +kernel
theorem dX8_sheet_55 : decode cX8_sheet 55 = .ok (.iload_n 3, 1) := by decide +kernel
theorem dX8_sheet_56 : decode cX8_sheet 56 = .ok (.bipush 40, 2) := by decide +kernel
theorem dX8_sheet_58 : decode cX8_sheet 58 = .ok (.if_icmp .le 10, 3) := by decide +kernel
theorem dX8_sheet_88 : decode cX8_sheet 88 = .ok (.iload_n 3, 1) := by decide +kernel
theorem dX8_sheet_61 : decode cX8_sheet 61 = .ok (.aload_n 0, 1) := by decide +kernel
theorem dX8_sheet_62 : decode cX8_sheet 62 = .ok (.ldc 60, 2) := by decide +kernel
theorem dX8_sheet_64 : decode cX8_sheet 64 = .ok (.invokevirtual 61, 3) := by decide +kernel
theorem dX8_sheet_67 : decode cX8_sheet 67 = .ok (.ireturn, 1) := by decide +kernel
theorem dX8_sheet_44 : decode cX8_sheet 44 = .ok (.aload_n 0, 1) := by decide +kernel
theorem dX8_sheet_45 : decode cX8_sheet 45 = .ok (.ldc 186, 2) := by decide +kernel
theorem dX8_sheet_47 : decode cX8_sheet 47 = .ok (.invokevirtual 61, 3) := by decide +kernel
theorem dX8_sheet_50 : decode cX8_sheet 50 = .ok (.ireturn, 1) := by decide +kernel
theorem dX8_sheet_17 : decode cX8_sheet 17 = .ok (.iload_n 2, 1) := by decide +kernel
theorem dX8_sheet_18 : decode cX8_sheet 18 = .ok (.bipush 16, 2) := by decide +kernel
theorem dX8_sheet_20 : decode cX8_sheet 20 = .ok (.if_icmp .eq 16, 3) := by decide +kernel
theorem dX8_sheet_23 : decode cX8_sheet 23 = .ok (.iload_n 2, 1) := by decide +kernel
theorem dX8_sheet_24 : decode cX8_sheet 24 = .ok (.bipush 32, 2) := by decide +kernel
theorem dX8_sheet_26 : decode cX8_sheet 26 = .ok (.if_icmp .eq 10, 3) := by decide +kernel
theorem dX8_sheet_29 : decode cX8_sheet 29 = .ok (.aload_n 0, 1) := by decide +kernel
theorem dX8_sheet_30 : decode cX8_sheet 30 = .ok (.ldc 60, 2) := by decide +kernel
theorem dX8_sheet_32 : decode cX8_sheet 32 = .ok (.invokevirtual 61, 3) := by decide +kernel
theorem dX8_sheet_35 : decode cX8_sheet 35 = .ok (.ireturn, 1) := by decide +kernel
theorem dX8_image_0 : decode cX8_image 0 = .ok (.aload_n 0, 1) := by decide +kernel
theorem dX8_image_1 : decode cX8_image 1 = .ok (.aload_n 0, 1) := by decide +kernel
theorem dX8_image_2 : decode cX8_image 2 = .ok (.getfield 7, 3) := by decide +kernel
theorem dX8_image_5 : decode cX8_image 5 = .ok (.aload_n 0, 1) := by decide +kernel
theorem dX8_image_6 : decode cX8_image 6 = .ok (.getfield 13, 3) := by decide +kernel
theorem dX8_image_9 : decode cX8_image 9 = .ok (.invokevirtual 175, 3) := by decide +kernel
theorem dX8_image_12 : decode cX8_image 12 = .ok (.aload_n 0, 1) := by decide +kernel
theorem dX8_image_13 : decode cX8_image 13 = .ok (.iconst 1, 1) := by decide +kernel
theorem dX8_image_14 : decode cX8_image 14 = .ok (.putfield 244, 3) := by decide +kernel
theorem dX8_image_17 : decode cX8_image 17 = .ok (.aload_n 0, 1) := by decide +kernel
theorem dX8_image_18 : decode cX8_image 18 = .ok (.dup, 1) := by decide +kernel
theorem dX8_image_19 : decode cX8_image 19 = .ok (.getfield 247, 3) := by decide +kernel
theorem dX8_image_22 : decode cX8_image 22 = .ok (.iconst 1, 1) := by decide +kernel
theorem dX8_image_23 : decode cX8_image 23 = .ok (.iadd, 1) := by decide +kernel
theorem dX8_image_24 : decode cX8_image 24 = .ok (.putfield 247, 3) := by decide +kernel
theorem dX8_image_27 : decode cX8_image 27 = .ok (.aload_n 0, 1) := by decide +kernel
theorem dX8_image_28 : decode cX8_image 28 = .ok (.getfield 247, 3) := by decide +kernel
theorem dX8_image_31 : decode cX8_image 31 = .ok (.ireturn, 1) := by decide +kernel
theorem dX8_gets_0 : decode cX8_gets 0 = .ok (.aload_n 0, 1) := by decide +kernel
theorem dX8_gets_1 : decode cX8_gets 1 = .ok (.getfield 7, 3) := by decide +kernel
theorem dX8_gets_4 : decode cX8_gets 4 = .ok (.bipush 11, 2) := by decide +kernel
theorem dX8_gets_6 : decode cX8_gets 6 = .ok (.bipush 7, 2) := by decide +kernel
theorem dX8_gets_8 : decode cX8_gets 8 = .ok (.iload_n 1, 1) := by decide +kernel
theorem dX8_gets_9 : decode cX8_gets 9 = .ok (.imul, 1) := by decide +kernel
theorem dX8_gets_10 : decode cX8_gets 10 = .ok (.iadd, 1) := by decide +kernel
theorem dX8_gets_11 : decode cX8_gets 11 = .ok (.iload_n 2, 1) := by decide +kernel
theorem dX8_gets_12 : decode cX8_gets 12 = .ok (.iadd, 1) := by decide +kernel
theorem dX8_gets_13 : decode cX8_gets 13 = .ok (.iload_n 3, 1) := by decide +kernel
theorem dX8_gets_14 : decode cX8_gets 14 = .ok (.iastore, 1) := by decide +kernel
theorem dX8_gets_15 : decode cX8_gets 15 = .ok (.return_, 1) := by decide +kernel
theorem dX8_quarrel_0 : decode cX8_quarrel 0 = .ok (.iload_n 1, 1) := by decide +kernel
theorem dX8_quarrel_1 : decode cX8_quarrel 1 = .ok (.iconst 0, 1) := by decide +kernel
theorem dX8_quarrel_2 : decode cX8_quarrel 2 = .ok (.bipush 69, 2) := by decide +kernel
theorem dX8_quarrel_4 : decode cX8_quarrel 4 = .ok (.invokestatic 47, 3) := by decide +kernel
theorem dX8_quarrel_7 : decode cX8_quarrel 7 = .ok (.ifCond .eq 37, 3) := by decide +kernel
theorem dX8_quarrel_10 : decode cX8_quarrel 10 = .ok (.iload_n 2, 1) := by decide +kernel
theorem dX8_quarrel_11 : decode cX8_quarrel 11 = .ok (.invokestatic 51, 3) := by decide +kernel
theorem dX8_quarrel_14 : decode cX8_quarrel 14 = .ok (.ifCond .eq 30, 3) := by decide +kernel
theorem dX8_quarrel_17 : decode cX8_quarrel 17 = .ok (.iload_n 3, 1) := by decide +kernel
theorem dX8_quarrel_18 : decode cX8_quarrel 18 = .ok (.iconst 0, 1) := by decide +kernel
theorem dX8_quarrel_19 : decode cX8_quarrel 19 = .ok (.bipush 99, 2) := by decide +kernel
theorem dX8_quarrel_21 : decode cX8_quarrel 21 = .ok (.invokestatic 47, 3) := by decide +kernel
theorem dX8_quarrel_24 : decode cX8_quarrel 24 = .ok (.ifCond .eq 20, 3) := by decide +kernel
theorem dX8_quarrel_27 : decode cX8_quarrel 27 = .ok (.iload 4, 2) := by decide +kernel
theorem dX8_quarrel_29 : decode cX8_quarrel 29 = .ok (.iconst (-1), 1) := by decide +kernel
theorem dX8_quarrel_30 : decode cX8_quarrel 30 = .ok (.aload_n 0, 1) := by decide +kernel
theorem dX8_quarrel_31 : decode cX8_quarrel 31 = .ok (.getfield 7, 3) := by decide +kernel
theorem dX8_quarrel_34 : decode cX8_quarrel 34 = .ok (.iconst 2, 1) := by decide +kernel
theorem dX8_quarrel_35 : decode cX8_quarrel 35 = .ok (.iaload, 1) := by decide +kernel
theorem dX8_quarrel_36 : decode cX8_quarrel 36 = .ok (.iconst 1, 1) := by decide +kernel
theorem dX8_quarrel_37 : decode cX8_quarrel 37 = .ok (.isub, 1) := by decide +kernel
theorem dX8_quarrel_38 : decode cX8_quarrel 38 = .ok (.invokestatic 47, 3) := by decide +kernel
theorem dX8_quarrel_41 : decode cX8_quarrel 41 = .ok (.ifCond .ne 10, 3) := by decide +kernel
theorem dX8_quarrel_51 : decode cX8_quarrel 51 = .ok (.aload_n 0, 1) := by decide +kernel
theorem dX8_quarrel_52 : decode cX8_quarrel 52 = .ok (.getfield 7, 3) := by decide +kernel
theorem dX8_quarrel_55 : decode cX8_quarrel 55 = .ok (.iconst 2, 1) := by decide +kernel
theorem dX8_quarrel_56 : decode cX8_quarrel 56 = .ok (.iaload, 1) := by decide +kernel
theorem dX8_quarrel_57 : decode cX8_quarrel 57 = .ok (.bipush 9, 2) := by decide +kernel
theorem dX8_quarrel_59 : decode cX8_quarrel 59 = .ok (.if_icmp .ne 10, 3) := by decide +kernel
theorem dX8_quarrel_69 : decode cX8_quarrel 69 = .ok (.aload_n 0, 1) := by decide +kernel
theorem dX8_quarrel_70 : decode cX8_quarrel 70 = .ok (.getfield 7, 3) := by decide +kernel
theorem dX8_quarrel_73 : decode cX8_quarrel 73 = .ok (.iconst 2, 1) := by decide +kernel
theorem dX8_quarrel_74 : decode cX8_quarrel 74 = .ok (.iaload, 1) := by decide +kernel
theorem dX8_quarrel_75 : decode cX8_quarrel 75 = .ok (.istore 5, 2) := by decide +kernel
theorem dX8_quarrel_77 : decode cX8_quarrel 77 = .ok (.aload_n 0, 1) := by decide +kernel
theorem dX8_quarrel_78 : decode cX8_quarrel 78 = .ok (.iload 5, 2) := by decide +kernel
theorem dX8_quarrel_80 : decode cX8_quarrel 80 = .ok (.iconst 0, 1) := by decide +kernel
theorem dX8_quarrel_81 : decode cX8_quarrel 81 = .ok (.iload_n 1, 1) := by decide +kernel
theorem dX8_quarrel_82 : decode cX8_quarrel 82 = .ok (.bipush 10, 2) := by decide +kernel
theorem dX8_quarrel_84 : decode cX8_quarrel 84 = .ok (.idiv, 1) := by decide +kernel
theorem dX8_quarrel_85 : decode cX8_quarrel 85 = .ok (.invokevirtual 69, 3) := by decide +kernel
theorem dX8_quarrel_88 : decode cX8_quarrel 88 = .ok (.aload_n 0, 1) := by decide +kernel
theorem dX8_quarrel_89 : decode cX8_quarrel 89 = .ok (.iload 5, 2) := by decide +kernel
theorem dX8_quarrel_91 : decode cX8_quarrel 91 = .ok (.iconst 1, 1) := by decide +kernel
theorem dX8_quarrel_92 : decode cX8_quarrel 92 = .ok (.iload_n 1, 1) := by decide +kernel
theorem dX8_quarrel_93 : decode cX8_quarrel 93 = .ok (.bipush 10, 2) := by decide +kernel
theorem dX8_quarrel_95 : decode cX8_quarrel 95 = .ok (.irem, 1) := by decide +kernel
theorem dX8_quarrel_96 : decode cX8_quarrel 96 = .ok (.invokevirtual 69, 3) := by decide +kernel
theorem dX8_quarrel_99 : decode cX8_quarrel 99 = .ok (.aload_n 0, 1) := by decide +kernel
theorem dX8_quarrel_100 : decode cX8_quarrel 100 = .ok (.iload 5, 2) := by decide +kernel
theorem dX8_quarrel_102 : decode cX8_quarrel 102 = .ok (.iconst 2, 1) := by decide +kernel
theorem dX8_quarrel_103 : decode cX8_quarrel 103 = .ok (.iload_n 2, 1) := by decide +kernel
theorem dX8_quarrel_104 : decode cX8_quarrel 104 = .ok (.invokevirtual 69, 3) := by decide +kernel
theorem dX8_quarrel_107 : decode cX8_quarrel 107 = .ok (.aload_n 0, 1) := by decide +kernel
theorem dX8_quarrel_108 : decode cX8_quarrel 108 = .ok (.iload 5, 2) := by decide +kernel
theorem dX8_quarrel_110 : decode cX8_quarrel 110 = .ok (.iconst 3, 1) := by decide +kernel
theorem dX8_quarrel_111 : decode cX8_quarrel 111 = .ok (.iload_n 3, 1) := by decide +kernel
theorem dX8_quarrel_112 : decode cX8_quarrel 112 = .ok (.invokevirtual 69, 3) := by decide +kernel
theorem dX8_quarrel_115 : decode cX8_quarrel 115 = .ok (.aload_n 0, 1) := by decide +kernel
theorem dX8_quarrel_116 : decode cX8_quarrel 116 = .ok (.iload 5, 2) := by decide +kernel
theorem dX8_quarrel_118 : decode cX8_quarrel 118 = .ok (.iconst 4, 1) := by decide +kernel
theorem dX8_quarrel_119 : decode cX8_quarrel 119 = .ok (.iload 4, 2) := by decide +kernel
theorem dX8_quarrel_121 : decode cX8_quarrel 121 = .ok (.invokevirtual 69, 3) := by decide +kernel
theorem dX8_quarrel_124 : decode cX8_quarrel 124 = .ok (.aload_n 0, 1) := by decide +kernel
theorem dX8_quarrel_125 : decode cX8_quarrel 125 = .ok (.iload 5, 2) := by decide +kernel
theorem dX8_quarrel_127 : decode cX8_quarrel 127 = .ok (.iconst 5, 1) := by decide +kernel
theorem dX8_quarrel_128 : decode cX8_quarrel 128 = .ok (.iconst 0, 1) := by decide +kernel
theorem dX8_quarrel_129 : decode cX8_quarrel 129 = .ok (.invokevirtual 69, 3) := by decide +kernel
theorem dX8_quarrel_132 : decode cX8_quarrel 132 = .ok (.aload_n 0, 1) := by decide +kernel
theorem dX8_quarrel_133 : decode cX8_quarrel 133 = .ok (.iload 5, 2) := by decide +kernel
theorem dX8_quarrel_135 : decode cX8_quarrel 135 = .ok (.bipush 6, 2) := by decide +kernel
theorem dX8_quarrel_137 : decode cX8_quarrel 137 = .ok (.iconst 0, 1) := by decide +kernel
theorem dX8_quarrel_138 : decode cX8_quarrel 138 = .ok (.invokevirtual 69, 3) := by decide +kernel
theorem dX8_quarrel_141 : decode cX8_quarrel 141 = .ok (.aload_n 0, 1) := by decide +kernel
theorem dX8_quarrel_142 : decode cX8_quarrel 142 = .ok (.getfield 7, 3) := by decide +kernel
theorem dX8_quarrel_145 : decode cX8_quarrel 145 = .ok (.iconst 2, 1) := by decide +kernel
theorem dX8_quarrel_146 : decode cX8_quarrel 146 = .ok (.dup2, 1) := by decide +kernel
theorem dX8_quarrel_147 : decode cX8_quarrel 147 = .ok (.iaload, 1) := by decide +kernel
theorem dX8_quarrel_148 : decode cX8_quarrel 148 = .ok (.iconst 1, 1) := by decide +kernel
theorem dX8_quarrel_149 : decode cX8_quarrel 149 = .ok (.iadd, 1) := by decide +kernel
theorem dX8_quarrel_150 : decode cX8_quarrel 150 = .ok (.iastore, 1) := by decide +kernel
theorem dX8_quarrel_151 : decode cX8_quarrel 151 = .ok (.iload 5, 2) := by decide +kernel
theorem dX8_quarrel_153 : decode cX8_quarrel 153 = .ok (.ireturn, 1) := by decide +kernel
theorem dX8_quarrel_44 : decode cX8_quarrel 44 = .ok (.aload_n 0, 1) := by decide +kernel
theorem dX8_quarrel_45 : decode cX8_quarrel 45 = .ok (.ldc 60, 2) := by decide +kernel
theorem dX8_quarrel_47 : decode cX8_quarrel 47 = .ok (.invokevirtual 61, 3) := by decide +kernel
theorem dX8_quarrel_50 : decode cX8_quarrel 50 = .ok (.ireturn, 1) := by decide +kernel
theorem dX8_feed_0 : decode cX8_feed 0 = .ok (.iload_n 3, 1) := by decide +kernel
theorem dX8_feed_1 : decode cX8_feed 1 = .ok (.iconst 1, 1) := by decide +kernel
theorem dX8_feed_2 : decode cX8_feed 2 = .ok (.bipush 8, 2) := by decide +kernel
theorem dX8_feed_4 : decode cX8_feed 4 = .ok (.invokestatic 47, 3) := by decide +kernel
theorem dX8_feed_7 : decode cX8_feed 7 = .ok (.ifCond .ne 10, 3) := by decide +kernel
theorem dX8_feed_17 : decode cX8_feed 17 = .ok (.aload_n 0, 1) := by decide +kernel
theorem dX8_feed_18 : decode cX8_feed 18 = .ok (.getfield 7, 3) := by decide +kernel
theorem dX8_feed_21 : decode cX8_feed 21 = .ok (.iconst 3, 1) := by decide +kernel
theorem dX8_feed_22 : decode cX8_feed 22 = .ok (.iaload, 1) := by decide +kernel
theorem dX8_feed_23 : decode cX8_feed 23 = .ok (.iload_n 3, 1) := by decide +kernel
theorem dX8_feed_24 : decode cX8_feed 24 = .ok (.iadd, 1) := by decide +kernel
theorem dX8_feed_25 : decode cX8_feed 25 = .ok (.bipush 50, 2) := by decide +kernel
theorem dX8_feed_27 : decode cX8_feed 27 = .ok (.if_icmp .le 10, 3) := by decide +kernel
theorem dX8_feed_37 : decode cX8_feed 37 = .ok (.iconst 0, 1) := by decide +kernel
theorem dX8_feed_38 : decode cX8_feed 38 = .ok (.istore 4, 2) := by decide +kernel
theorem dX8_feed_40 : decode cX8_feed 40 = .ok (.iload 4, 2) := by decide +kernel
theorem dX8_feed_42 : decode cX8_feed 42 = .ok (.iload_n 3, 1) := by decide +kernel
theorem dX8_feed_43 : decode cX8_feed 43 = .ok (.if_icmp .ge 45, 3) := by decide +kernel
theorem dX8_feed_88 : decode cX8_feed 88 = .ok (.aload_n 0, 1) := by decide +kernel
theorem dX8_feed_89 : decode cX8_feed 89 = .ok (.getfield 7, 3) := by decide +kernel
theorem dX8_feed_92 : decode cX8_feed 92 = .ok (.iconst 3, 1) := by decide +kernel
theorem dX8_feed_93 : decode cX8_feed 93 = .ok (.iaload, 1) := by decide +kernel
theorem dX8_feed_94 : decode cX8_feed 94 = .ok (.ireturn, 1) := by decide +kernel
theorem dX8_feed_46 : decode cX8_feed 46 = .ok (.aload_n 0, 1) := by decide +kernel
theorem dX8_feed_47 : decode cX8_feed 47 = .ok (.getfield 7, 3) := by decide +kernel
theorem dX8_feed_50 : decode cX8_feed 50 = .ok (.bipush 74, 2) := by decide +kernel
theorem dX8_feed_52 : decode cX8_feed 52 = .ok (.aload_n 0, 1) := by decide +kernel
theorem dX8_feed_53 : decode cX8_feed 53 = .ok (.getfield 7, 3) := by decide +kernel
theorem dX8_feed_56 : decode cX8_feed 56 = .ok (.iconst 3, 1) := by decide +kernel
theorem dX8_feed_57 : decode cX8_feed 57 = .ok (.iaload, 1) := by decide +kernel
theorem dX8_feed_58 : decode cX8_feed 58 = .ok (.iadd, 1) := by decide +kernel
theorem dX8_feed_59 : decode cX8_feed 59 = .ok (.lload_n 1, 1) := by decide +kernel
theorem dX8_feed_60 : decode cX8_feed 60 = .ok (.bipush 8, 2) := by decide +kernel
theorem dX8_feed_62 : decode cX8_feed 62 = .ok (.iload 4, 2) := by decide +kernel
theorem dX8_feed_64 : decode cX8_feed 64 = .ok (.imul, 1) := by decide +kernel
theorem dX8_feed_65 : decode cX8_feed 65 = .ok (.lshr, 1) := by decide +kernel
theorem dX8_feed_66 : decode cX8_feed 66 = .ok (.ldc2_w 157, 3) := by decide +kernel
theorem dX8_feed_69 : decode cX8_feed 69 = .ok (.land, 1) := by decide +kernel
theorem dX8_feed_70 : decode cX8_feed 70 = .ok (.l2i, 1) := by decide +kernel
theorem dX8_feed_71 : decode cX8_feed 71 = .ok (.iastore, 1) := by decide +kernel
theorem dX8_feed_72 : decode cX8_feed 72 = .ok (.aload_n 0, 1) := by decide +kernel
theorem dX8_feed_73 : decode cX8_feed 73 = .ok (.getfield 7, 3) := by decide +kernel
theorem dX8_feed_76 : decode cX8_feed 76 = .ok (.iconst 3, 1) := by decide +kernel
theorem dX8_feed_77 : decode cX8_feed 77 = .ok (.dup2, 1) := by decide +kernel
theorem dX8_feed_78 : decode cX8_feed 78 = .ok (.iaload, 1) := by decide +kernel
theorem dX8_feed_79 : decode cX8_feed 79 = .ok (.iconst 1, 1) := by decide +kernel
theorem dX8_feed_80 : decode cX8_feed 80 = .ok (.iadd, 1) := by decide +kernel
theorem dX8_feed_81 : decode cX8_feed 81 = .ok (.iastore, 1) := by decide +kernel
theorem dX8_feed_82 : decode cX8_feed 82 = .ok (.iinc 4 1, 3) := by decide +kernel
theorem dX8_feed_85 : decode cX8_feed 85 = .ok (.goto (-45), 3) := by decide +kernel
theorem dX8_feed_10 : decode cX8_feed 10 = .ok (.aload_n 0, 1) := by decide +kernel
theorem dX8_feed_11 : decode cX8_feed 11 = .ok (.ldc 60, 2) := by decide +kernel
theorem dX8_feed_13 : decode cX8_feed 13 = .ok (.invokevirtual 61, 3) := by decide +kernel
theorem dX8_feed_16 : decode cX8_feed 16 = .ok (.ireturn, 1) := by decide +kernel
theorem dX8_byteAt_0 : decode cX8_byteAt 0 = .ok (.iload_n 1, 1) := by decide +kernel
theorem dX8_byteAt_1 : decode cX8_byteAt 1 = .ok (.aload_n 0, 1) := by decide +kernel
theorem dX8_byteAt_2 : decode cX8_byteAt 2 = .ok (.getfield 89, 3) := by decide +kernel
theorem dX8_byteAt_5 : decode cX8_byteAt 5 = .ok (.if_icmp .ge 15, 3) := by decide +kernel
theorem dX8_byteAt_20 : decode cX8_byteAt 20 = .ok (.iconst (-1), 1) := by decide +kernel
theorem dX8_byteAt_21 : decode cX8_byteAt 21 = .ok (.ireturn, 1) := by decide +kernel
theorem dX8_isDigit_0 : decode cX8_isDigit 0 = .ok (.iload_n 0, 1) := by decide +kernel
theorem dX8_isDigit_1 : decode cX8_isDigit 1 = .ok (.bipush 48, 2) := by decide +kernel
theorem dX8_isDigit_3 : decode cX8_isDigit 3 = .ok (.bipush 57, 2) := by decide +kernel
theorem dX8_isDigit_5 : decode cX8_isDigit 5 = .ok (.invokestatic 47, 3) := by decide +kernel
theorem dX8_isDigit_8 : decode cX8_isDigit 8 = .ok (.ireturn, 1) := by decide +kernel
theorem dX8_named_0 : decode cX8_named 0 = .ok (.iload_n 1, 1) := by decide +kernel
theorem dX8_named_1 : decode cX8_named 1 = .ok (.bipush 101, 2) := by decide +kernel
theorem dX8_named_3 : decode cX8_named 3 = .ok (.if_icmp .ne 7, 3) := by decide +kernel
theorem dX8_named_10 : decode cX8_named 10 = .ok (.iconst 0, 1) := by decide +kernel
theorem dX8_named_11 : decode cX8_named 11 = .ok (.istore_n 2, 1) := by decide +kernel
theorem dX8_named_12 : decode cX8_named 12 = .ok (.iload_n 1, 1) := by decide +kernel
theorem dX8_named_13 : decode cX8_named 13 = .ok (.bipush 97, 2) := by decide +kernel
theorem dX8_named_15 : decode cX8_named 15 = .ok (.if_icmp .ne 7, 3) := by decide +kernel
theorem dX8_named_22 : decode cX8_named 22 = .ok (.iconst 0, 1) := by decide +kernel
theorem dX8_named_23 : decode cX8_named 23 = .ok (.istore_n 3, 1) := by decide +kernel
theorem dX8_named_24 : decode cX8_named 24 = .ok (.iload_n 1, 1) := by decide +kernel
theorem dX8_named_25 : decode cX8_named 25 = .ok (.aload_n 0, 1) := by decide +kernel
theorem dX8_named_26 : decode cX8_named 26 = .ok (.getfield 113, 3) := by decide +kernel
theorem dX8_named_29 : decode cX8_named 29 = .ok (.ifCond .ne 8, 3) := by decide +kernel
theorem dX8_named_37 : decode cX8_named 37 = .ok (.bipush 109, 2) := by decide +kernel
theorem dX8_named_39 : decode cX8_named 39 = .ok (.if_icmp .ne 7, 3) := by decide +kernel
theorem dX8_named_46 : decode cX8_named 46 = .ok (.iconst 0, 1) := by decide +kernel
theorem dX8_named_47 : decode cX8_named 47 = .ok (.istore 4, 2) := by decide +kernel
theorem dX8_named_49 : decode cX8_named 49 = .ok (.aload_n 0, 1) := by decide +kernel
theorem dX8_named_50 : decode cX8_named 50 = .ok (.iload_n 2, 1) := by decide +kernel
theorem dX8_named_51 : decode cX8_named 51 = .ok (.ifCond .ne 12, 3) := by decide +kernel
theorem dX8_named_54 : decode cX8_named 54 = .ok (.iload_n 3, 1) := by decide +kernel
theorem dX8_named_55 : decode cX8_named 55 = .ok (.ifCond .ne 8, 3) := by decide +kernel
theorem dX8_named_58 : decode cX8_named 58 = .ok (.iload 4, 2) := by decide +kernel
theorem dX8_named_60 : decode cX8_named 60 = .ok (.ifCond .eq 7, 3) := by decide +kernel
theorem dX8_named_67 : decode cX8_named 67 = .ok (.iconst 0, 1) := by decide +kernel
theorem dX8_named_68 : decode cX8_named 68 = .ok (.putfield 93, 3) := by decide +kernel
theorem dX8_named_71 : decode cX8_named 71 = .ok (.aload_n 0, 1) := by decide +kernel
theorem dX8_named_72 : decode cX8_named 72 = .ok (.getfield 93, 3) := by decide +kernel
theorem dX8_named_75 : decode cX8_named 75 = .ok (.ifCond .eq 38, 3) := by decide +kernel
theorem dX8_named_113 : decode cX8_named 113 = .ok (.return_, 1) := by decide +kernel
theorem dX8_named_32 : decode cX8_named 32 = .ok (.bipush 100, 2) := by decide +kernel
theorem dX8_named_34 : decode cX8_named 34 = .ok (.goto 5, 3) := by decide +kernel
theorem dX8_factor_0 : decode cX8_factor 0 = .ok (.aload_n 0, 1) := by decide +kernel
theorem dX8_factor_1 : decode cX8_factor 1 = .ok (.aload_n 0, 1) := by decide +kernel
theorem dX8_factor_2 : decode cX8_factor 2 = .ok (.getfield 100, 3) := by decide +kernel
theorem dX8_factor_5 : decode cX8_factor 5 = .ok (.invokevirtual 103, 3) := by decide +kernel
theorem dX8_factor_8 : decode cX8_factor 8 = .ok (.istore_n 1, 1) := by decide +kernel
theorem dX8_factor_9 : decode cX8_factor 9 = .ok (.iload_n 1, 1) := by decide +kernel
theorem dX8_factor_10 : decode cX8_factor 10 = .ok (.invokestatic 106, 3) := by decide +kernel
theorem dX8_factor_13 : decode cX8_factor 13 = .ok (.ifCond .eq 10, 3) := by decide +kernel
theorem dX8_factor_23 : decode cX8_factor 23 = .ok (.iload_n 1, 1) := by decide +kernel
theorem dX8_factor_24 : decode cX8_factor 24 = .ok (.bipush 33, 2) := by decide +kernel
theorem dX8_factor_26 : decode cX8_factor 26 = .ok (.if_icmp .eq 17, 3) := by decide +kernel
theorem dX8_factor_29 : decode cX8_factor 29 = .ok (.iload_n 1, 1) := by decide +kernel
theorem dX8_factor_30 : decode cX8_factor 30 = .ok (.bipush 40, 2) := by decide +kernel
theorem dX8_factor_32 : decode cX8_factor 32 = .ok (.if_icmp .eq 11, 3) := by decide +kernel
theorem dX8_factor_35 : decode cX8_factor 35 = .ok (.aload_n 0, 1) := by decide +kernel
theorem dX8_factor_36 : decode cX8_factor 36 = .ok (.iload_n 1, 1) := by decide +kernel
theorem dX8_factor_37 : decode cX8_factor 37 = .ok (.invokevirtual 119, 3) := by decide +kernel
theorem dX8_factor_40 : decode cX8_factor 40 = .ok (.goto 123, 3) := by decide +kernel
theorem dX8_factor_163 : decode cX8_factor 163 = .ok (.return_, 1) := by decide +kernel
theorem dX8_product_0 : decode cX8_product 0 = .ok (.aload_n 0, 1) := by decide +kernel
theorem dX8_product_1 : decode cX8_product 1 = .ok (.invokevirtual 125, 3) := by decide +kernel
theorem dX8_product_4 : decode cX8_product 4 = .ok (.aload_n 0, 1) := by decide +kernel
theorem dX8_product_5 : decode cX8_product 5 = .ok (.getfield 93, 3) := by decide +kernel
theorem dX8_product_8 : decode cX8_product 8 = .ok (.ifCond .eq 77, 3) := by decide +kernel
theorem dX8_product_85 : decode cX8_product 85 = .ok (.return_, 1) := by decide +kernel
theorem dX8_sum_0 : decode cX8_sum 0 = .ok (.aload_n 0, 1) := by decide +kernel
theorem dX8_sum_1 : decode cX8_sum 1 = .ok (.invokevirtual 131, 3) := by decide +kernel
theorem dX8_sum_4 : decode cX8_sum 4 = .ok (.aload_n 0, 1) := by decide +kernel
theorem dX8_sum_5 : decode cX8_sum 5 = .ok (.getfield 93, 3) := by decide +kernel
theorem dX8_sum_8 : decode cX8_sum 8 = .ok (.ifCond .eq 64, 3) := by decide +kernel
theorem dX8_sum_72 : decode cX8_sum 72 = .ok (.return_, 1) := by decide +kernel
theorem dX8_compared_0 : decode cX8_compared 0 = .ok (.aload_n 0, 1) := by decide +kernel
theorem dX8_compared_1 : decode cX8_compared 1 = .ok (.invokevirtual 134, 3) := by decide +kernel
theorem dX8_compared_4 : decode cX8_compared 4 = .ok (.aload_n 0, 1) := by decide +kernel
theorem dX8_compared_5 : decode cX8_compared 5 = .ok (.getfield 93, 3) := by decide +kernel
theorem dX8_compared_8 : decode cX8_compared 8 = .ok (.ifCond .eq 14, 3) := by decide +kernel
theorem dX8_compared_22 : decode cX8_compared 22 = .ok (.iconst (-1), 1) := by decide +kernel
theorem dX8_compared_23 : decode cX8_compared 23 = .ok (.istore_n 1, 1) := by decide +kernel
theorem dX8_compared_24 : decode cX8_compared 24 = .ok (.iload_n 1, 1) := by decide +kernel
theorem dX8_compared_25 : decode cX8_compared 25 = .ok (.bipush 60, 2) := by decide +kernel
theorem dX8_compared_27 : decode cX8_compared 27 = .ok (.if_icmp .eq 15, 3) := by decide +kernel
theorem dX8_compared_30 : decode cX8_compared 30 = .ok (.iload_n 1, 1) := by decide +kernel
theorem dX8_compared_31 : decode cX8_compared 31 = .ok (.bipush 61, 2) := by decide +kernel
theorem dX8_compared_33 : decode cX8_compared 33 = .ok (.if_icmp .eq 9, 3) := by decide +kernel
theorem dX8_compared_36 : decode cX8_compared 36 = .ok (.iload_n 1, 1) := by decide +kernel
theorem dX8_compared_37 : decode cX8_compared 37 = .ok (.bipush 62, 2) := by decide +kernel
theorem dX8_compared_39 : decode cX8_compared 39 = .ok (.if_icmp .ne 26, 3) := by decide +kernel
theorem dX8_compared_65 : decode cX8_compared 65 = .ok (.return_, 1) := by decide +kernel
theorem dX8_both_0 : decode cX8_both 0 = .ok (.aload_n 0, 1) := by decide +kernel
theorem dX8_both_1 : decode cX8_both 1 = .ok (.invokevirtual 137, 3) := by decide +kernel
theorem dX8_both_4 : decode cX8_both 4 = .ok (.aload_n 0, 1) := by decide +kernel
theorem dX8_both_5 : decode cX8_both 5 = .ok (.getfield 93, 3) := by decide +kernel
theorem dX8_both_8 : decode cX8_both 8 = .ok (.ifCond .eq 40, 3) := by decide +kernel
theorem dX8_both_48 : decode cX8_both 48 = .ok (.return_, 1) := by decide +kernel
theorem dX8_whole_0 : decode cX8_whole 0 = .ok (.aload_n 0, 1) := by decide +kernel
theorem dX8_whole_1 : decode cX8_whole 1 = .ok (.invokevirtual 140, 3) := by decide +kernel
theorem dX8_whole_4 : decode cX8_whole 4 = .ok (.aload_n 0, 1) := by decide +kernel
theorem dX8_whole_5 : decode cX8_whole 5 = .ok (.getfield 93, 3) := by decide +kernel
theorem dX8_whole_8 : decode cX8_whole 8 = .ok (.ifCond .eq 40, 3) := by decide +kernel
theorem dX8_whole_48 : decode cX8_whole 48 = .ok (.return_, 1) := by decide +kernel
theorem dX8_text_0 : decode cX8_text 0 = .ok (.iload_n 1, 1) := by decide +kernel
theorem dX8_text_1 : decode cX8_text 1 = .ok (.iconst 0, 1) := by decide +kernel
theorem dX8_text_2 : decode cX8_text 2 = .ok (.iconst 1, 1) := by decide +kernel
theorem dX8_text_3 : decode cX8_text 3 = .ok (.invokestatic 47, 3) := by decide +kernel
theorem dX8_text_6 : decode cX8_text 6 = .ok (.ifCond .ne 10, 3) := by decide +kernel
theorem dX8_text_16 : decode cX8_text 16 = .ok (.aload_n 0, 1) := by decide +kernel
theorem dX8_text_17 : decode cX8_text 17 = .ok (.iload_n 1, 1) := by decide +kernel
theorem dX8_text_18 : decode cX8_text 18 = .ok (.putfield 113, 3) := by decide +kernel
theorem dX8_text_21 : decode cX8_text 21 = .ok (.aload_n 0, 1) := by decide +kernel
theorem dX8_text_22 : decode cX8_text 22 = .ok (.iconst 0, 1) := by decide +kernel
theorem dX8_text_23 : decode cX8_text 23 = .ok (.putfield 100, 3) := by decide +kernel
theorem dX8_text_26 : decode cX8_text 26 = .ok (.aload_n 0, 1) := by decide +kernel
theorem dX8_text_27 : decode cX8_text 27 = .ok (.aload_n 0, 1) := by decide +kernel
theorem dX8_text_28 : decode cX8_text 28 = .ok (.getfield 7, 3) := by decide +kernel
theorem dX8_text_31 : decode cX8_text 31 = .ok (.iconst 3, 1) := by decide +kernel
theorem dX8_text_32 : decode cX8_text 32 = .ok (.iaload, 1) := by decide +kernel
theorem dX8_text_33 : decode cX8_text 33 = .ok (.putfield 89, 3) := by decide +kernel
theorem dX8_text_36 : decode cX8_text 36 = .ok (.aload_n 0, 1) := by decide +kernel
theorem dX8_text_37 : decode cX8_text 37 = .ok (.iconst 0, 1) := by decide +kernel
theorem dX8_text_38 : decode cX8_text 38 = .ok (.putfield 122, 3) := by decide +kernel
theorem dX8_text_41 : decode cX8_text 41 = .ok (.aload_n 0, 1) := by decide +kernel
theorem dX8_text_42 : decode cX8_text 42 = .ok (.iconst 0, 1) := by decide +kernel
theorem dX8_text_43 : decode cX8_text 43 = .ok (.putfield 97, 3) := by decide +kernel
theorem dX8_text_46 : decode cX8_text 46 = .ok (.aload_n 0, 1) := by decide +kernel
theorem dX8_text_47 : decode cX8_text 47 = .ok (.iconst 1, 1) := by decide +kernel
theorem dX8_text_48 : decode cX8_text 48 = .ok (.putfield 93, 3) := by decide +kernel
theorem dX8_text_51 : decode cX8_text 51 = .ok (.aload_n 0, 1) := by decide +kernel
theorem dX8_text_52 : decode cX8_text 52 = .ok (.invokevirtual 128, 3) := by decide +kernel
theorem dX8_text_55 : decode cX8_text 55 = .ok (.aload_n 0, 1) := by decide +kernel
theorem dX8_text_56 : decode cX8_text 56 = .ok (.aload_n 0, 1) := by decide +kernel
theorem dX8_text_57 : decode cX8_text 57 = .ok (.getfield 93, 3) := by decide +kernel
theorem dX8_text_60 : decode cX8_text 60 = .ok (.ifCond .eq 18, 3) := by decide +kernel
theorem dX8_text_78 : decode cX8_text 78 = .ok (.iconst 0, 1) := by decide +kernel
theorem dX8_text_79 : decode cX8_text 79 = .ok (.putfield 93, 3) := by decide +kernel
theorem dX8_text_82 : decode cX8_text 82 = .ok (.aload_n 0, 1) := by decide +kernel
theorem dX8_text_83 : decode cX8_text 83 = .ok (.getfield 7, 3) := by decide +kernel
theorem dX8_text_86 : decode cX8_text 86 = .ok (.iconst 3, 1) := by decide +kernel
theorem dX8_text_87 : decode cX8_text 87 = .ok (.iconst 0, 1) := by decide +kernel
theorem dX8_text_88 : decode cX8_text 88 = .ok (.iastore, 1) := by decide +kernel
theorem dX8_text_89 : decode cX8_text 89 = .ok (.aload_n 0, 1) := by decide +kernel
theorem dX8_text_90 : decode cX8_text 90 = .ok (.getfield 93, 3) := by decide +kernel
theorem dX8_text_93 : decode cX8_text 93 = .ok (.ifCond .ne 11, 3) := by decide +kernel
theorem dX8_text_96 : decode cX8_text 96 = .ok (.bipush (-10), 2) := by decide +kernel
theorem dX8_text_98 : decode cX8_text 98 = .ok (.aload_n 0, 1) := by decide +kernel
theorem dX8_text_99 : decode cX8_text 99 = .ok (.getfield 100, 3) := by decide +kernel
theorem dX8_text_102 : decode cX8_text 102 = .ok (.isub, 1) := by decide +kernel
theorem dX8_text_103 : decode cX8_text 103 = .ok (.ireturn, 1) := by decide +kernel
theorem dX8_text_9 : decode cX8_text 9 = .ok (.aload_n 0, 1) := by decide +kernel
theorem dX8_text_10 : decode cX8_text 10 = .ok (.ldc 60, 2) := by decide +kernel
theorem dX8_text_12 : decode cX8_text 12 = .ok (.invokevirtual 61, 3) := by decide +kernel
theorem dX8_text_15 : decode cX8_text 15 = .ok (.ireturn, 1) := by decide +kernel
set_option maxRecDepth 100000 in
set_option maxHeartbeats 4000000 in
theorem c_mostOver0_7 (l : Launch) (D : va_G) (y : wY) (ad : Nat → Nat) (M : Mem) (N : Nat) (hN : N ≤ 60) (hm : M 80 2 = 0) (what : Int32) : MI l D y ad yX8_mostOver (Cond.code yX8_mostOver cX8_mostOver 9 (some .int)) 4 M [.ref (ad 79), .int 7, .int (nI N), .int what] (fun r _ => 0 = r) := by
  refine MI_of (by decide) (Nat.le_of_ble_eq_true rfl) ?_
  intro p e s m args below meth c X hr hlocks
  refine j_lv (lv1 := [(0, .ref (ad 79)), (1, .int 7), (2, .int (nI N)), (3, .int what)]) [0, 1, 2, 3] rfl ?_
  refine j_aload_n X 0 rfl rfl dX8_mostOver_0 ?_
  refine j_get X (by decide) (wE_8 _ rfl) rfl awF8 0 (by decide) aw_92 rfl (v := .ref (ad 80)) rfl dX8_mostOver_1 ?_
  refine j_iload_n X 1 rfl rfl dX8_mostOver_4 ?_
  refine j_iald X (by decide) rfl (by unfold vp_in; decide) dX8_mostOver_5 ?_
  refine j_eqi (v := M 80 7) rfl ?_
  refine j_istore X [(4, .int (M 80 7)), (0, .ref (ad 79)), (1, .int 7), (2, .int (nI N)), (3, .int what)] (by decide) rfl dX8_mostOver_6 ?_
  refine j_iconst X (v := 0) (by decide) dX8_mostOver_8 ?_
  refine j_istore X [(5, .int 0), (4, .int (M 80 7)), (0, .ref (ad 79)), (1, .int 7), (2, .int (nI N)), (3, .int what)] (by decide) rfl dX8_mostOver_9 ?_
  refine j_iconst X (v := (-1)) (by decide) dX8_mostOver_11 ?_
  refine j_istore X [(6, .int (-1)), (5, .int 0), (4, .int (M 80 7)), (0, .ref (ad 79)), (1, .int 7), (2, .int (nI N)), (3, .int what)] (by decide) rfl dX8_mostOver_12 ?_
  refine j_iconst X (v := 0) (by decide) dX8_mostOver_14 ?_
  refine j_istore X [(7, .int 0), (6, .int (-1)), (5, .int 0), (4, .int (M 80 7)), (0, .ref (ad 79)), (1, .int 7), (2, .int (nI N)), (3, .int what)] (by decide) rfl dX8_mostOver_15 ?_
  refine j_iload X 0 rfl dX8_mostOver_17 ?_
  refine j_bipush X (v := 10) (by decide) dX8_mostOver_19 ?_
  refine j_icmp_ge X 80 (by decide) dX8_mostOver_21 (fun c_1 => False.elim (by revert c_1; decide)) (fun c_1 => ?_)
  refine j_aload_n X 4 rfl rfl dX8_mostOver_24 ?_
  refine j_get X (by decide) (wE_8 _ rfl) rfl awF8 0 (by decide) aw_92 rfl (v := .ref (ad 80)) rfl dX8_mostOver_25 ?_
  refine j_iload_n X 5 rfl rfl dX8_mostOver_28 ?_
  refine j_iload X 0 rfl dX8_mostOver_29 ?_
  refine j_iast X (by decide) rfl (by unfold vp_in; decide) dX8_mostOver_31 ?_
  refine j_eqM (M1 := (up M 80 7 0)) rfl ?_
  refine j_aload_n X 4 rfl rfl dX8_mostOver_32 ?_
  refine j_iload_n X 6 rfl rfl dX8_mostOver_33 ?_
  refine j_callVI X (nn := 1) (As := [.int (nI N)]) (st := []) (ci := 8) (by decide) (wE_8 _ rfl) rfl aw_575 aw_576 (c_overBehind0 l D y ad (up M 80 7 0) N (by omega) ((show _ = M 80 2 from by simp [up]).trans hm)) aw_574 aw_577 aw_5 (by decide +kernel) ⟨by decide, by decide⟩ rfl (Nat.le_of_ble_eq_true rfl) ⟨by decide, by decide⟩ dX8_mostOver_34 ?_
  rintro r_ M_3 ⟨rfl, s_2⟩
  refine j_callSI X (nn := 1) (As := [.int 0]) (st := []) aw_510 (c_bits0 l D y ad M_3) aw_509 aw_511 aw_5 (by decide +kernel) ⟨by decide, by decide⟩ rfl (Nat.le_of_ble_eq_true rfl) ⟨by decide, by decide⟩ dX8_mostOver_37 ?_
  rintro r_ M1_ ⟨rfl, rfl⟩
  refine j_istore X [(8, .int 0), (7, .int 0), (6, .int (-1)), (5, .int 0), (4, .int (M 80 7)), (0, .ref (ad 79)), (1, .int 7), (2, .int (nI N)), (3, .int what)] (by decide) rfl dX8_mostOver_40 ?_
  refine j_iload X 0 rfl dX8_mostOver_42 ?_
  refine j_iload X 2 rfl dX8_mostOver_44 ?_
  refine j_icmp_le X 54 (by decide) dX8_mostOver_46 (fun c_4 => False.elim (by revert c_4; decide)) (fun c_4 => ?_)
  refine j_iload X 1 rfl dX8_mostOver_49 ?_
  refine j_goto X 56 (by decide) dX8_mostOver_51 ?_
  refine j_istore X [(5, .int 0), (8, .int 0), (7, .int 0), (6, .int (-1)), (4, .int (M 80 7)), (0, .ref (ad 79)), (1, .int 7), (2, .int (nI N)), (3, .int what)] (by decide) rfl dX8_mostOver_56 ?_
  refine j_iload X 1 rfl dX8_mostOver_58 ?_
  refine j_iload X 3 rfl dX8_mostOver_60 ?_
  refine j_icmp_le X 70 (by decide) dX8_mostOver_62 (fun c_5 => False.elim (by revert c_5; decide)) (fun c_5 => ?_)
  refine j_iload X 1 rfl dX8_mostOver_65 ?_
  refine j_goto X 72 (by decide) dX8_mostOver_67 ?_
  refine j_istore X [(6, .int 0), (5, .int 0), (8, .int 0), (7, .int 0), (4, .int (M 80 7)), (0, .ref (ad 79)), (1, .int 7), (2, .int (nI N)), (3, .int what)] (by decide) rfl dX8_mostOver_72 ?_
  refine j_iinc X (v := 1) 3 [(7, .int 1), (6, .int 0), (5, .int 0), (8, .int 0), (4, .int (M 80 7)), (0, .ref (ad 79)), (1, .int 7), (2, .int (nI N)), (3, .int what)] rfl (by decide) (by decide) rfl dX8_mostOver_74 ?_
  refine j_goto X 17 (by decide) dX8_mostOver_77 ?_
  have loop6 : ∀ (n_6 i_6 : Nat) (M6 : Mem), i_6 ≤ 10 → 10 - i_6 < n_6 → sm (fun b k => b == 82 || (b == 80 && k == 7)) M_3 M6 → J p l e (rmN 4) s m args below meth c 0 0 (QI (fun r _ => 0 = r) D y ad M s args below) D y ad (va_A (PL y ad M) s.heap.size) 9 M6 17 [(7, .int (nI i_6)), (0, .ref (ad 79)), (1, .int 7), (2, .int (nI N)), (3, .int what), (4, .int (M 80 7)), (5, .int 0), (6, .int 0), (8, .int 0)] [] := by
    intro n_6
    induction n_6 with
    | zero => intro i_6 M6 h1 h2; exact absurd h2 (by omega)
    | succ n_6 ih6 =>
      intro i_6 M6 h1i_6 h2i_6 hs6
      refine j_iload X 0 rfl dX8_mostOver_17 ?_
      refine j_bipush X (v := 10) (by decide) dX8_mostOver_19 ?_
      refine j_icmp_ge X 80 (by decide) dX8_mostOver_21 (fun c_7 => ?_) (fun c_7 => ?_)
      · have c_7 := (nI_leI (by omega) (by omega)).mp (show nI (10) ≤ nI i_6 from c_7)
        refine j_aload_n X 1 rfl rfl dX8_mostOver_80 ?_
        refine j_get X (by decide) (wE_8 _ rfl) rfl awF8 0 (by decide) aw_92 rfl (v := .ref (ad 80)) rfl dX8_mostOver_81 ?_
        refine j_iload_n X 2 rfl rfl dX8_mostOver_84 ?_
        refine j_iload X 5 rfl dX8_mostOver_85 ?_
        refine j_iast X (by decide) rfl (by unfold vp_in; decide) dX8_mostOver_87 ?_
        refine j_eqM (M1 := (up M6 80 7 (M 80 7))) rfl ?_
        refine j_iload_n X 4 rfl rfl dX8_mostOver_88 ?_
        refine j_if_ne X 97 (by decide) dX8_mostOver_89 (fun c_8 => ?_) (fun c_8 => ?_)
        · have qc_8 := ti_ne (n := 0) (by decide) c_8
          refine j_iload X 7 rfl dX8_mostOver_97 ?_
          exact j_iret X hr hlocks dX8_mostOver_99 rfl
        · have qc_8 := ti_eq (n := 0) (by decide) c_8
          refine j_iload X 6 rfl dX8_mostOver_92 ?_
          refine j_goto X 99 (by decide) dX8_mostOver_94 ?_
          exact j_iret X hr hlocks dX8_mostOver_99 rfl
      · have c_7 : i_6 < 10 := by
          rcases Nat.lt_or_ge i_6 (10) with g | g
          · exact g
          · exact absurd (show nI (10) ≤ nI i_6 from nI_le g (by omega)) c_7
        refine j_aload_n X 1 rfl rfl dX8_mostOver_24 ?_
        refine j_get X (by decide) (wE_8 _ rfl) rfl awF8 0 (by decide) aw_92 rfl (v := .ref (ad 80)) rfl dX8_mostOver_25 ?_
        refine j_iload_n X 2 rfl rfl dX8_mostOver_28 ?_
        refine j_iload X 0 rfl dX8_mostOver_29 ?_
        refine j_iast X (by decide) rfl (by unfold vp_in; decide) dX8_mostOver_31 ?_
        refine j_eqM (M1 := (up M6 80 7 (nI i_6))) rfl ?_
        refine j_aload_n X 1 rfl rfl dX8_mostOver_32 ?_
        refine j_iload_n X 3 rfl rfl dX8_mostOver_33 ?_
        refine j_callVI X (nn := 1) (As := [.int (nI N)]) (st := []) (ci := 8) (by decide) (wE_8 _ rfl) rfl aw_575 aw_576 (c_overBehind0 l D y ad (up M6 80 7 (nI i_6)) N (by omega) ((show _ = M6 80 2 from by simp [up]).trans ((hs6 80 2 rfl).trans ((s_2 80 2 rfl).trans ((show _ = M 80 2 from by simp [up]).trans hm))))) aw_574 aw_577 aw_5 (by decide +kernel) ⟨by decide, by decide⟩ rfl (Nat.le_of_ble_eq_true rfl) ⟨by decide, by decide⟩ dX8_mostOver_34 ?_
        rintro r_ M_10 ⟨rfl, s_9⟩
        refine j_callSI X (nn := 1) (As := [.int 0]) (st := []) aw_510 (c_bits0 l D y ad M_10) aw_509 aw_511 aw_5 (by decide +kernel) ⟨by decide, by decide⟩ rfl (Nat.le_of_ble_eq_true rfl) ⟨by decide, by decide⟩ dX8_mostOver_37 ?_
        rintro r_ M1_ ⟨rfl, rfl⟩
        refine j_istore X [(8, .int 0), (7, .int (nI i_6)), (0, .ref (ad 79)), (1, .int 7), (2, .int (nI N)), (3, .int what), (4, .int (M 80 7)), (5, .int 0), (6, .int 0)] (by decide) rfl dX8_mostOver_40 ?_
        refine j_iload X 0 rfl dX8_mostOver_42 ?_
        refine j_iload X 8 rfl dX8_mostOver_44 ?_
        refine j_icmp_le X 54 (by decide) dX8_mostOver_46 (fun c_11 => ?_) (fun c_11 => False.elim (by revert c_11; decide))
        refine j_iload X 7 rfl dX8_mostOver_54 ?_
        refine j_istore X [(5, .int 0), (8, .int 0), (7, .int (nI i_6)), (0, .ref (ad 79)), (1, .int 7), (2, .int (nI N)), (3, .int what), (4, .int (M 80 7)), (6, .int 0)] (by decide) rfl dX8_mostOver_56 ?_
        refine j_iload X 1 rfl dX8_mostOver_58 ?_
        refine j_iload X 8 rfl dX8_mostOver_60 ?_
        refine j_icmp_le X 70 (by decide) dX8_mostOver_62 (fun c_12 => ?_) (fun c_12 => False.elim (by revert c_12; decide))
        refine j_iload X 8 rfl dX8_mostOver_70 ?_
        refine j_istore X [(6, .int 0), (5, .int 0), (8, .int 0), (7, .int (nI i_6)), (0, .ref (ad 79)), (1, .int 7), (2, .int (nI N)), (3, .int what), (4, .int (M 80 7))] (by decide) rfl dX8_mostOver_72 ?_
        refine j_iinc X (v := (nI (i_6 + 1))) 3 [(7, .int (nI (i_6 + 1))), (6, .int 0), (5, .int 0), (8, .int 0), (0, .ref (ad 79)), (1, .int 7), (2, .int (nI N)), (3, .int what), (4, .int (M 80 7))] rfl (show nI i_6 + Int32.ofInt 1 = _ from nI_1 i_6) (by decide) rfl dX8_mostOver_74 ?_
        refine j_goto X 17 (by decide) dX8_mostOver_77 ?_
        refine j_lv (lv1 := [(7, .int (nI (i_6 + 1))), (0, .ref (ad 79)), (1, .int 7), (2, .int (nI N)), (3, .int what), (4, .int (M 80 7)), (5, .int 0), (6, .int 0), (8, .int 0)]) [0, 4, 5, 6, 7, 8, 2, 1, 3] rfl ?_
        exact ih6 (i_6 + 1) _ (by omega) (by omega) (sm_tr (sm_up hs6 rfl) (sm_w s_9 (by intro b k hb; simp only [Bool.or_eq_false_iff, Bool.and_eq_false_iff, beq_eq_false_iff_ne, ne_eq, decide_eq_false_iff_not] at hb ⊢; omega)))
  refine j_lv (lv1 := [(7, .int (nI 1)), (0, .ref (ad 79)), (1, .int 7), (2, .int (nI N)), (3, .int what), (4, .int (M 80 7)), (5, .int 0), (6, .int 0), (8, .int 0)]) [0, 5, 6, 7, 8, 4, 2, 1, 3] rfl ?_
  exact loop6 (10 + 1) 1 _ (by omega) (by omega) sm_rf
set_option maxRecDepth 100000 in
set_option maxHeartbeats 4000000 in
theorem c_mostOver0_8 (l : Launch) (D : va_G) (y : wY) (ad : Nat → Nat) (M : Mem) (N : Nat) (hN : N ≤ 60) (hm : M 80 2 = 0) (what : Int32) : MI l D y ad yX8_mostOver (Cond.code yX8_mostOver cX8_mostOver 9 (some .int)) 4 M [.ref (ad 79), .int 8, .int (nI N), .int what] (fun r _ => 0 = r) := by
  refine MI_of (by decide) (Nat.le_of_ble_eq_true rfl) ?_
  intro p e s m args below meth c X hr hlocks
  refine j_lv (lv1 := [(0, .ref (ad 79)), (1, .int 8), (2, .int (nI N)), (3, .int what)]) [0, 1, 2, 3] rfl ?_
  refine j_aload_n X 0 rfl rfl dX8_mostOver_0 ?_
  refine j_get X (by decide) (wE_8 _ rfl) rfl awF8 0 (by decide) aw_92 rfl (v := .ref (ad 80)) rfl dX8_mostOver_1 ?_
  refine j_iload_n X 1 rfl rfl dX8_mostOver_4 ?_
  refine j_iald X (by decide) rfl (by unfold vp_in; decide) dX8_mostOver_5 ?_
  refine j_eqi (v := M 80 8) rfl ?_
  refine j_istore X [(4, .int (M 80 8)), (0, .ref (ad 79)), (1, .int 8), (2, .int (nI N)), (3, .int what)] (by decide) rfl dX8_mostOver_6 ?_
  refine j_iconst X (v := 0) (by decide) dX8_mostOver_8 ?_
  refine j_istore X [(5, .int 0), (4, .int (M 80 8)), (0, .ref (ad 79)), (1, .int 8), (2, .int (nI N)), (3, .int what)] (by decide) rfl dX8_mostOver_9 ?_
  refine j_iconst X (v := (-1)) (by decide) dX8_mostOver_11 ?_
  refine j_istore X [(6, .int (-1)), (5, .int 0), (4, .int (M 80 8)), (0, .ref (ad 79)), (1, .int 8), (2, .int (nI N)), (3, .int what)] (by decide) rfl dX8_mostOver_12 ?_
  refine j_iconst X (v := 0) (by decide) dX8_mostOver_14 ?_
  refine j_istore X [(7, .int 0), (6, .int (-1)), (5, .int 0), (4, .int (M 80 8)), (0, .ref (ad 79)), (1, .int 8), (2, .int (nI N)), (3, .int what)] (by decide) rfl dX8_mostOver_15 ?_
  refine j_iload X 0 rfl dX8_mostOver_17 ?_
  refine j_bipush X (v := 10) (by decide) dX8_mostOver_19 ?_
  refine j_icmp_ge X 80 (by decide) dX8_mostOver_21 (fun c_1 => False.elim (by revert c_1; decide)) (fun c_1 => ?_)
  refine j_aload_n X 4 rfl rfl dX8_mostOver_24 ?_
  refine j_get X (by decide) (wE_8 _ rfl) rfl awF8 0 (by decide) aw_92 rfl (v := .ref (ad 80)) rfl dX8_mostOver_25 ?_
  refine j_iload_n X 5 rfl rfl dX8_mostOver_28 ?_
  refine j_iload X 0 rfl dX8_mostOver_29 ?_
  refine j_iast X (by decide) rfl (by unfold vp_in; decide) dX8_mostOver_31 ?_
  refine j_eqM (M1 := (up M 80 8 0)) rfl ?_
  refine j_aload_n X 4 rfl rfl dX8_mostOver_32 ?_
  refine j_iload_n X 6 rfl rfl dX8_mostOver_33 ?_
  refine j_callVI X (nn := 1) (As := [.int (nI N)]) (st := []) (ci := 8) (by decide) (wE_8 _ rfl) rfl aw_575 aw_576 (c_overBehind0 l D y ad (up M 80 8 0) N (by omega) ((show _ = M 80 2 from by simp [up]).trans hm)) aw_574 aw_577 aw_5 (by decide +kernel) ⟨by decide, by decide⟩ rfl (Nat.le_of_ble_eq_true rfl) ⟨by decide, by decide⟩ dX8_mostOver_34 ?_
  rintro r_ M_3 ⟨rfl, s_2⟩
  refine j_callSI X (nn := 1) (As := [.int 0]) (st := []) aw_510 (c_bits0 l D y ad M_3) aw_509 aw_511 aw_5 (by decide +kernel) ⟨by decide, by decide⟩ rfl (Nat.le_of_ble_eq_true rfl) ⟨by decide, by decide⟩ dX8_mostOver_37 ?_
  rintro r_ M1_ ⟨rfl, rfl⟩
  refine j_istore X [(8, .int 0), (7, .int 0), (6, .int (-1)), (5, .int 0), (4, .int (M 80 8)), (0, .ref (ad 79)), (1, .int 8), (2, .int (nI N)), (3, .int what)] (by decide) rfl dX8_mostOver_40 ?_
  refine j_iload X 0 rfl dX8_mostOver_42 ?_
  refine j_iload X 2 rfl dX8_mostOver_44 ?_
  refine j_icmp_le X 54 (by decide) dX8_mostOver_46 (fun c_4 => False.elim (by revert c_4; decide)) (fun c_4 => ?_)
  refine j_iload X 1 rfl dX8_mostOver_49 ?_
  refine j_goto X 56 (by decide) dX8_mostOver_51 ?_
  refine j_istore X [(5, .int 0), (8, .int 0), (7, .int 0), (6, .int (-1)), (4, .int (M 80 8)), (0, .ref (ad 79)), (1, .int 8), (2, .int (nI N)), (3, .int what)] (by decide) rfl dX8_mostOver_56 ?_
  refine j_iload X 1 rfl dX8_mostOver_58 ?_
  refine j_iload X 3 rfl dX8_mostOver_60 ?_
  refine j_icmp_le X 70 (by decide) dX8_mostOver_62 (fun c_5 => False.elim (by revert c_5; decide)) (fun c_5 => ?_)
  refine j_iload X 1 rfl dX8_mostOver_65 ?_
  refine j_goto X 72 (by decide) dX8_mostOver_67 ?_
  refine j_istore X [(6, .int 0), (5, .int 0), (8, .int 0), (7, .int 0), (4, .int (M 80 8)), (0, .ref (ad 79)), (1, .int 8), (2, .int (nI N)), (3, .int what)] (by decide) rfl dX8_mostOver_72 ?_
  refine j_iinc X (v := 1) 3 [(7, .int 1), (6, .int 0), (5, .int 0), (8, .int 0), (4, .int (M 80 8)), (0, .ref (ad 79)), (1, .int 8), (2, .int (nI N)), (3, .int what)] rfl (by decide) (by decide) rfl dX8_mostOver_74 ?_
  refine j_goto X 17 (by decide) dX8_mostOver_77 ?_
  have loop6 : ∀ (n_6 i_6 : Nat) (M6 : Mem), i_6 ≤ 10 → 10 - i_6 < n_6 → sm (fun b k => b == 82 || (b == 80 && k == 8)) M_3 M6 → J p l e (rmN 4) s m args below meth c 0 0 (QI (fun r _ => 0 = r) D y ad M s args below) D y ad (va_A (PL y ad M) s.heap.size) 9 M6 17 [(7, .int (nI i_6)), (0, .ref (ad 79)), (1, .int 8), (2, .int (nI N)), (3, .int what), (4, .int (M 80 8)), (5, .int 0), (6, .int 0), (8, .int 0)] [] := by
    intro n_6
    induction n_6 with
    | zero => intro i_6 M6 h1 h2; exact absurd h2 (by omega)
    | succ n_6 ih6 =>
      intro i_6 M6 h1i_6 h2i_6 hs6
      refine j_iload X 0 rfl dX8_mostOver_17 ?_
      refine j_bipush X (v := 10) (by decide) dX8_mostOver_19 ?_
      refine j_icmp_ge X 80 (by decide) dX8_mostOver_21 (fun c_7 => ?_) (fun c_7 => ?_)
      · have c_7 := (nI_leI (by omega) (by omega)).mp (show nI (10) ≤ nI i_6 from c_7)
        refine j_aload_n X 1 rfl rfl dX8_mostOver_80 ?_
        refine j_get X (by decide) (wE_8 _ rfl) rfl awF8 0 (by decide) aw_92 rfl (v := .ref (ad 80)) rfl dX8_mostOver_81 ?_
        refine j_iload_n X 2 rfl rfl dX8_mostOver_84 ?_
        refine j_iload X 5 rfl dX8_mostOver_85 ?_
        refine j_iast X (by decide) rfl (by unfold vp_in; decide) dX8_mostOver_87 ?_
        refine j_eqM (M1 := (up M6 80 8 (M 80 8))) rfl ?_
        refine j_iload_n X 4 rfl rfl dX8_mostOver_88 ?_
        refine j_if_ne X 97 (by decide) dX8_mostOver_89 (fun c_8 => ?_) (fun c_8 => ?_)
        · have qc_8 := ti_ne (n := 0) (by decide) c_8
          refine j_iload X 7 rfl dX8_mostOver_97 ?_
          exact j_iret X hr hlocks dX8_mostOver_99 rfl
        · have qc_8 := ti_eq (n := 0) (by decide) c_8
          refine j_iload X 6 rfl dX8_mostOver_92 ?_
          refine j_goto X 99 (by decide) dX8_mostOver_94 ?_
          exact j_iret X hr hlocks dX8_mostOver_99 rfl
      · have c_7 : i_6 < 10 := by
          rcases Nat.lt_or_ge i_6 (10) with g | g
          · exact g
          · exact absurd (show nI (10) ≤ nI i_6 from nI_le g (by omega)) c_7
        refine j_aload_n X 1 rfl rfl dX8_mostOver_24 ?_
        refine j_get X (by decide) (wE_8 _ rfl) rfl awF8 0 (by decide) aw_92 rfl (v := .ref (ad 80)) rfl dX8_mostOver_25 ?_
        refine j_iload_n X 2 rfl rfl dX8_mostOver_28 ?_
        refine j_iload X 0 rfl dX8_mostOver_29 ?_
        refine j_iast X (by decide) rfl (by unfold vp_in; decide) dX8_mostOver_31 ?_
        refine j_eqM (M1 := (up M6 80 8 (nI i_6))) rfl ?_
        refine j_aload_n X 1 rfl rfl dX8_mostOver_32 ?_
        refine j_iload_n X 3 rfl rfl dX8_mostOver_33 ?_
        refine j_callVI X (nn := 1) (As := [.int (nI N)]) (st := []) (ci := 8) (by decide) (wE_8 _ rfl) rfl aw_575 aw_576 (c_overBehind0 l D y ad (up M6 80 8 (nI i_6)) N (by omega) ((show _ = M6 80 2 from by simp [up]).trans ((hs6 80 2 rfl).trans ((s_2 80 2 rfl).trans ((show _ = M 80 2 from by simp [up]).trans hm))))) aw_574 aw_577 aw_5 (by decide +kernel) ⟨by decide, by decide⟩ rfl (Nat.le_of_ble_eq_true rfl) ⟨by decide, by decide⟩ dX8_mostOver_34 ?_
        rintro r_ M_10 ⟨rfl, s_9⟩
        refine j_callSI X (nn := 1) (As := [.int 0]) (st := []) aw_510 (c_bits0 l D y ad M_10) aw_509 aw_511 aw_5 (by decide +kernel) ⟨by decide, by decide⟩ rfl (Nat.le_of_ble_eq_true rfl) ⟨by decide, by decide⟩ dX8_mostOver_37 ?_
        rintro r_ M1_ ⟨rfl, rfl⟩
        refine j_istore X [(8, .int 0), (7, .int (nI i_6)), (0, .ref (ad 79)), (1, .int 8), (2, .int (nI N)), (3, .int what), (4, .int (M 80 8)), (5, .int 0), (6, .int 0)] (by decide) rfl dX8_mostOver_40 ?_
        refine j_iload X 0 rfl dX8_mostOver_42 ?_
        refine j_iload X 8 rfl dX8_mostOver_44 ?_
        refine j_icmp_le X 54 (by decide) dX8_mostOver_46 (fun c_11 => ?_) (fun c_11 => False.elim (by revert c_11; decide))
        refine j_iload X 7 rfl dX8_mostOver_54 ?_
        refine j_istore X [(5, .int 0), (8, .int 0), (7, .int (nI i_6)), (0, .ref (ad 79)), (1, .int 8), (2, .int (nI N)), (3, .int what), (4, .int (M 80 8)), (6, .int 0)] (by decide) rfl dX8_mostOver_56 ?_
        refine j_iload X 1 rfl dX8_mostOver_58 ?_
        refine j_iload X 8 rfl dX8_mostOver_60 ?_
        refine j_icmp_le X 70 (by decide) dX8_mostOver_62 (fun c_12 => ?_) (fun c_12 => False.elim (by revert c_12; decide))
        refine j_iload X 8 rfl dX8_mostOver_70 ?_
        refine j_istore X [(6, .int 0), (5, .int 0), (8, .int 0), (7, .int (nI i_6)), (0, .ref (ad 79)), (1, .int 8), (2, .int (nI N)), (3, .int what), (4, .int (M 80 8))] (by decide) rfl dX8_mostOver_72 ?_
        refine j_iinc X (v := (nI (i_6 + 1))) 3 [(7, .int (nI (i_6 + 1))), (6, .int 0), (5, .int 0), (8, .int 0), (0, .ref (ad 79)), (1, .int 8), (2, .int (nI N)), (3, .int what), (4, .int (M 80 8))] rfl (show nI i_6 + Int32.ofInt 1 = _ from nI_1 i_6) (by decide) rfl dX8_mostOver_74 ?_
        refine j_goto X 17 (by decide) dX8_mostOver_77 ?_
        refine j_lv (lv1 := [(7, .int (nI (i_6 + 1))), (0, .ref (ad 79)), (1, .int 8), (2, .int (nI N)), (3, .int what), (4, .int (M 80 8)), (5, .int 0), (6, .int 0), (8, .int 0)]) [0, 4, 5, 6, 7, 8, 2, 1, 3] rfl ?_
        exact ih6 (i_6 + 1) _ (by omega) (by omega) (sm_tr (sm_up hs6 rfl) (sm_w s_9 (by intro b k hb; simp only [Bool.or_eq_false_iff, Bool.and_eq_false_iff, beq_eq_false_iff_ne, ne_eq, decide_eq_false_iff_not] at hb ⊢; omega)))
  refine j_lv (lv1 := [(7, .int (nI 1)), (0, .ref (ad 79)), (1, .int 8), (2, .int (nI N)), (3, .int what), (4, .int (M 80 8)), (5, .int 0), (6, .int 0), (8, .int 0)]) [0, 5, 6, 7, 8, 4, 2, 1, 3] rfl ?_
  exact loop6 (10 + 1) 1 _ (by omega) (by omega) sm_rf
set_option maxRecDepth 100000 in
set_option maxHeartbeats 4000000 in
theorem c0_X8_start (l : Launch) (D : va_G) (y : wY) (ad : Nat → Nat) (M : Mem) (hz : Z1 M) (n what : Int32) : MI l D y ad yX8_start (Cond.code yX8_start cX8_start 3 (some .int)) 6 M [.ref (ad 79), .int n, .int what] (fun r _ => sp_start n what = r) := by
  refine MI_of (by decide) (Nat.le_of_ble_eq_true rfl) ?_
  intro p e s m args below meth c X hr hlocks
  refine j_lv (lv1 := [(0, .ref (ad 79)), (1, .int n), (2, .int what)]) [0, 1, 2] rfl ?_
  refine j_iload_n X 1 rfl rfl dX8_start_0 ?_
  refine j_iconst X (v := 0) (by decide) dX8_start_1 ?_
  refine j_bipush X (v := 60) (by decide) dX8_start_2 ?_
  refine j_callSI X (nn := 3) (As := [.int n, .int 0, .int 60]) (st := []) aw_134 (c_X8_in l D y ad M n 0 60 0 60 (by decide) (by decide)) aw_133 aw_135 aw_5 (by decide +kernel) ⟨by decide, by decide⟩ rfl (Nat.le_of_ble_eq_true rfl) ⟨by decide, by decide⟩ dX8_start_4 ?_
  rintro r_ M1_ (⟨rfl, rfl, h_1⟩ | ⟨rfl, rfl, h_1⟩)
  · refine j_if_eq X 30 (by decide) dX8_start_7 (fun c_2 => False.elim (by revert c_2; decide)) (fun c_2 => ?_)
    refine j_iload_n X 2 rfl rfl dX8_start_10 ?_
    refine j_iconst X (v := 0) (by decide) dX8_start_11 ?_
    refine j_iconst X (v := 1) (by decide) dX8_start_12 ?_
    refine j_callSI X (nn := 3) (As := [.int what, .int 0, .int 1]) (st := []) aw_134 (c_X8_in l D y ad M what 0 1 0 1 (by decide) (by decide)) aw_133 aw_135 aw_5 (by decide +kernel) ⟨by decide, by decide⟩ rfl (Nat.le_of_ble_eq_true rfl) ⟨by decide, by decide⟩ dX8_start_13 ?_
    rintro r_ M1_ (⟨rfl, rfl, h_3⟩ | ⟨rfl, rfl, h_3⟩)
    · refine j_if_eq X 30 (by decide) dX8_start_16 (fun c_4 => False.elim (by revert c_4; decide)) (fun c_4 => ?_)
      obtain ⟨N, hN, rfl⟩ := nI_oft (x := n) (n := 60) (by omega) (by omega) (by decide)
      rw [nI_ti hN (by decide)] at h_1
      refine j_aload_n X 0 rfl rfl dX8_start_19 ?_
      refine j_bipush X (v := 7) (by decide) dX8_start_20 ?_
      refine j_iload_n X 1 rfl rfl dX8_start_22 ?_
      refine j_iload_n X 2 rfl rfl dX8_start_23 ?_
      refine j_callVI X (nn := 3) (As := [.int 7, .int (nI N), .int what]) (st := []) (ci := 8) (by decide) (wE_8 _ rfl) rfl aw_587 aw_588 (c_mostOver0_7 l D y ad M N (by omega) hz.2.2.1 what) aw_586 aw_589 aw_5 (by decide +kernel) ⟨by decide, by decide⟩ rfl (Nat.le_of_ble_eq_true rfl) ⟨by decide, by decide⟩ dX8_start_24 ?_
      rintro r_ M1_ rfl
      refine j_goto X 36 (by decide) dX8_start_27 ?_
      exact j_iret X hr hlocks dX8_start_36 (by unfold sp_start; rw [nI_ti hN (by decide)]; (repeat' split) <;> first | rfl | omega | (exfalso; omega))
    · refine j_if_eq X 30 (by decide) dX8_start_16 (fun c_5 => ?_) (fun c_5 => False.elim (by revert c_5; decide))
      refine j_aload_n X 0 rfl rfl dX8_start_30 ?_
      refine j_ldc X (v := (-1000000001)) aw_132 dX8_start_31 ?_
      refine j_callVI X (nn := 1) (As := [.int (-1000000001)]) (st := []) (ci := 8) (by decide) (wE_8 _ rfl) rfl aw_144 aw_145 (c_X8_errs l D y ad M (-1000000001) 1 (by decide) (by decide)) aw_143 aw_146 aw_5 (by decide +kernel) ⟨by decide, by decide⟩ rfl (Nat.le_of_ble_eq_true rfl) ⟨by decide, by decide⟩ dX8_start_33 ?_
      rintro r_ M1_ ⟨rfl, rfl⟩
      exact j_iret X hr hlocks dX8_start_36 (by unfold sp_start; (repeat' split) <;> first | rfl | omega | (exfalso; omega))
  · refine j_if_eq X 30 (by decide) dX8_start_7 (fun c_6 => ?_) (fun c_6 => False.elim (by revert c_6; decide))
    refine j_aload_n X 0 rfl rfl dX8_start_30 ?_
    refine j_ldc X (v := (-1000000001)) aw_132 dX8_start_31 ?_
    refine j_callVI X (nn := 1) (As := [.int (-1000000001)]) (st := []) (ci := 8) (by decide) (wE_8 _ rfl) rfl aw_144 aw_145 (c_X8_errs l D y ad M (-1000000001) 1 (by decide) (by decide)) aw_143 aw_146 aw_5 (by decide +kernel) ⟨by decide, by decide⟩ rfl (Nat.le_of_ble_eq_true rfl) ⟨by decide, by decide⟩ dX8_start_33 ?_
    rintro r_ M1_ ⟨rfl, rfl⟩
    exact j_iret X hr hlocks dX8_start_36 (by unfold sp_start; (repeat' split) <;> first | rfl | omega | (exfalso; omega))
set_option maxRecDepth 100000 in
set_option maxHeartbeats 4000000 in
theorem c0_X8_pace (l : Launch) (D : va_G) (y : wY) (ad : Nat → Nat) (M : Mem) (hz : Z1 M) (n what : Int32) : MI l D y ad yX8_pace (Cond.code yX8_pace cX8_pace 3 (some .int)) 6 M [.ref (ad 79), .int n, .int what] (fun r _ => sp_pace n what = r) := by
  refine MI_of (by decide) (Nat.le_of_ble_eq_true rfl) ?_
  intro p e s m args below meth c X hr hlocks
  refine j_lv (lv1 := [(0, .ref (ad 79)), (1, .int n), (2, .int what)]) [0, 1, 2] rfl ?_
  refine j_iload_n X 1 rfl rfl dX8_pace_0 ?_
  refine j_iconst X (v := 0) (by decide) dX8_pace_1 ?_
  refine j_bipush X (v := 60) (by decide) dX8_pace_2 ?_
  refine j_callSI X (nn := 3) (As := [.int n, .int 0, .int 60]) (st := []) aw_134 (c_X8_in l D y ad M n 0 60 0 60 (by decide) (by decide)) aw_133 aw_135 aw_5 (by decide +kernel) ⟨by decide, by decide⟩ rfl (Nat.le_of_ble_eq_true rfl) ⟨by decide, by decide⟩ dX8_pace_4 ?_
  rintro r_ M1_ (⟨rfl, rfl, h_1⟩ | ⟨rfl, rfl, h_1⟩)
  · refine j_if_eq X 30 (by decide) dX8_pace_7 (fun c_2 => False.elim (by revert c_2; decide)) (fun c_2 => ?_)
    refine j_iload_n X 2 rfl rfl dX8_pace_10 ?_
    refine j_iconst X (v := 0) (by decide) dX8_pace_11 ?_
    refine j_iconst X (v := 1) (by decide) dX8_pace_12 ?_
    refine j_callSI X (nn := 3) (As := [.int what, .int 0, .int 1]) (st := []) aw_134 (c_X8_in l D y ad M what 0 1 0 1 (by decide) (by decide)) aw_133 aw_135 aw_5 (by decide +kernel) ⟨by decide, by decide⟩ rfl (Nat.le_of_ble_eq_true rfl) ⟨by decide, by decide⟩ dX8_pace_13 ?_
    rintro r_ M1_ (⟨rfl, rfl, h_3⟩ | ⟨rfl, rfl, h_3⟩)
    · refine j_if_eq X 30 (by decide) dX8_pace_16 (fun c_4 => False.elim (by revert c_4; decide)) (fun c_4 => ?_)
      obtain ⟨N, hN, rfl⟩ := nI_oft (x := n) (n := 60) (by omega) (by omega) (by decide)
      rw [nI_ti hN (by decide)] at h_1
      refine j_aload_n X 0 rfl rfl dX8_pace_19 ?_
      refine j_bipush X (v := 8) (by decide) dX8_pace_20 ?_
      refine j_iload_n X 1 rfl rfl dX8_pace_22 ?_
      refine j_iload_n X 2 rfl rfl dX8_pace_23 ?_
      refine j_callVI X (nn := 3) (As := [.int 8, .int (nI N), .int what]) (st := []) (ci := 8) (by decide) (wE_8 _ rfl) rfl aw_587 aw_588 (c_mostOver0_8 l D y ad M N (by omega) hz.2.2.1 what) aw_586 aw_589 aw_5 (by decide +kernel) ⟨by decide, by decide⟩ rfl (Nat.le_of_ble_eq_true rfl) ⟨by decide, by decide⟩ dX8_pace_24 ?_
      rintro r_ M1_ rfl
      refine j_goto X 36 (by decide) dX8_pace_27 ?_
      exact j_iret X hr hlocks dX8_pace_36 (by unfold sp_pace; rw [nI_ti hN (by decide)]; (repeat' split) <;> first | rfl | omega | (exfalso; omega))
    · refine j_if_eq X 30 (by decide) dX8_pace_16 (fun c_5 => ?_) (fun c_5 => False.elim (by revert c_5; decide))
      refine j_aload_n X 0 rfl rfl dX8_pace_30 ?_
      refine j_ldc X (v := (-1000000001)) aw_132 dX8_pace_31 ?_
      refine j_callVI X (nn := 1) (As := [.int (-1000000001)]) (st := []) (ci := 8) (by decide) (wE_8 _ rfl) rfl aw_144 aw_145 (c_X8_errs l D y ad M (-1000000001) 1 (by decide) (by decide)) aw_143 aw_146 aw_5 (by decide +kernel) ⟨by decide, by decide⟩ rfl (Nat.le_of_ble_eq_true rfl) ⟨by decide, by decide⟩ dX8_pace_33 ?_
      rintro r_ M1_ ⟨rfl, rfl⟩
      exact j_iret X hr hlocks dX8_pace_36 (by unfold sp_pace; (repeat' split) <;> first | rfl | omega | (exfalso; omega))
  · refine j_if_eq X 30 (by decide) dX8_pace_7 (fun c_6 => ?_) (fun c_6 => False.elim (by revert c_6; decide))
    refine j_aload_n X 0 rfl rfl dX8_pace_30 ?_
    refine j_ldc X (v := (-1000000001)) aw_132 dX8_pace_31 ?_
    refine j_callVI X (nn := 1) (As := [.int (-1000000001)]) (st := []) (ci := 8) (by decide) (wE_8 _ rfl) rfl aw_144 aw_145 (c_X8_errs l D y ad M (-1000000001) 1 (by decide) (by decide)) aw_143 aw_146 aw_5 (by decide +kernel) ⟨by decide, by decide⟩ rfl (Nat.le_of_ble_eq_true rfl) ⟨by decide, by decide⟩ dX8_pace_33 ?_
    rintro r_ M1_ ⟨rfl, rfl⟩
    exact j_iret X hr hlocks dX8_pace_36 (by unfold sp_pace; (repeat' split) <;> first | rfl | omega | (exfalso; omega))
set_option maxRecDepth 100000 in
set_option maxHeartbeats 4000000 in
theorem c0_X8_last (l : Launch) (D : va_G) (y : wY) (ad : Nat → Nat) (M : Mem) (hz : Z1 M) (what : Int32) : MI l D y ad yX8_last (Cond.code yX8_last cX8_last 9 (some .int)) 6 M [.ref (ad 79), .int what] (fun r _ => sp_last what = r) := by
  refine MI_of (by decide) (Nat.le_of_ble_eq_true rfl) ?_
  intro p e s m args below meth c X hr hlocks
  refine j_lv (lv1 := [(0, .ref (ad 79)), (1, .int what)]) [0, 1] rfl ?_
  refine j_iload_n X 1 rfl rfl dX8_last_0 ?_
  refine j_iconst X (v := 0) (by decide) dX8_last_1 ?_
  refine j_iconst X (v := 1) (by decide) dX8_last_2 ?_
  refine j_callSI X (nn := 3) (As := [.int what, .int 0, .int 1]) (st := []) aw_134 (c_X8_in l D y ad M what 0 1 0 1 (by decide) (by decide)) aw_133 aw_135 aw_5 (by decide +kernel) ⟨by decide, by decide⟩ rfl (Nat.le_of_ble_eq_true rfl) ⟨by decide, by decide⟩ dX8_last_3 ?_
  rintro r_ M1_ (⟨rfl, rfl, h_1⟩ | ⟨rfl, rfl, h_1⟩)
  · refine j_if_ne X 16 (by decide) dX8_last_6 (fun c_2 => ?_) (fun c_2 => False.elim (by revert c_2; decide))
    refine j_iconst X (v := (-1)) (by decide) dX8_last_16 ?_
    refine j_istore_n X [(2, .int (-1)), (0, .ref (ad 79)), (1, .int what)] rfl (by decide) rfl dX8_last_17 ?_
    refine j_iconst X (v := 0) (by decide) dX8_last_18 ?_
    refine j_istore_n X [(3, .int 0), (2, .int (-1)), (0, .ref (ad 79)), (1, .int what)] rfl (by decide) rfl dX8_last_19 ?_
    refine j_aload_n X 2 rfl rfl dX8_last_20 ?_
    refine j_aload_n X 2 rfl rfl dX8_last_21 ?_
    refine j_get X (by decide) (wE_8 _ rfl) rfl awF8 0 (by decide) aw_92 rfl (v := .ref (ad 80)) rfl dX8_last_22 ?_
    refine j_aload_n X 2 rfl rfl dX8_last_25 ?_
    refine j_get X (by decide) (wE_8 _ rfl) rfl awF8 2 (by decide) aw_94 rfl (v := .ref (ad 82)) rfl dX8_last_26 ?_
    refine j_callVV X (nn := 2) (As := [.ref (ad 80), .ref (ad 82)]) (st := []) (ci := 8) (by decide) (wE_8 _ rfl) rfl aw_553 aw_554 (c_moveAll_80_82 l D y ad M) aw_552 aw_555 aw_5 (by decide +kernel) ⟨by decide, by decide⟩ rfl (Nat.le_of_ble_eq_true rfl) ⟨by decide, by decide⟩ dX8_last_29 ?_
    rintro M_4 ⟨s_3, s_3_v⟩
    refine j_aload_n X 2 rfl rfl dX8_last_32 ?_
    refine j_callVI X (nn := 0) (As := []) (st := []) (ci := 8) (by decide) (wE_8 _ rfl) rfl aw_506 aw_507 (c_overSet0 l D y ad M_4 ((s_3 80 2 rfl).trans hz.2.2.1)) aw_505 aw_508 aw_5 (by decide +kernel) ⟨by decide, by decide⟩ rfl (Nat.le_of_ble_eq_true rfl) ⟨by decide, by decide⟩ dX8_last_33 ?_
    rintro r_ M1_ ⟨rfl, rfl⟩
    refine j_istore X [(4, .int 0), (3, .int 0), (2, .int (-1)), (0, .ref (ad 79)), (1, .int what)] (by decide) rfl dX8_last_36 ?_
    refine j_iconst X (v := 1) (by decide) dX8_last_38 ?_
    refine j_istore X [(5, .int 1), (4, .int 0), (3, .int 0), (2, .int (-1)), (0, .ref (ad 79)), (1, .int what)] (by decide) rfl dX8_last_39 ?_
    have loop5 : ∀ (n_5 i_5 : Nat) (M5 : Mem), i_5 ≤ 61 → 61 - i_5 < n_5 → sm (fun b k => b == 80 && (k == 7 || k == 0)) M_4 M5 → J p l e (rmN 6) s m args below meth c 0 0 (QI (fun r _ => sp_last what = r) D y ad M s args below) D y ad (va_A (PL y ad M) s.heap.size) 9 M5 41 [(5, .int (nI i_5)), (0, .ref (ad 79)), (1, .int what), (2, .int (-1)), (3, .int 0), (4, .int 0)] [] := by
      intro n_5
      induction n_5 with
      | zero => intro i_5 M5 h1 h2; exact absurd h2 (by omega)
      | succ n_5 ih5 =>
        intro i_5 M5 h1i_5 h2i_5 hs5
        refine j_iload X 0 rfl dX8_last_41 ?_
        refine j_bipush X (v := 60) (by decide) dX8_last_43 ?_
        refine j_icmp_gt X 139 (by decide) dX8_last_45 (fun c_6 => ?_) (fun c_6 => ?_)
        · refine j_aload_n X 1 rfl rfl dX8_last_139 ?_
          refine j_aload_n X 1 rfl rfl dX8_last_140 ?_
          refine j_get X (by decide) (wE_8 _ rfl) rfl awF8 2 (by decide) aw_94 rfl (v := .ref (ad 82)) rfl dX8_last_141 ?_
          refine j_aload_n X 1 rfl rfl dX8_last_144 ?_
          refine j_get X (by decide) (wE_8 _ rfl) rfl awF8 0 (by decide) aw_92 rfl (v := .ref (ad 80)) rfl dX8_last_145 ?_
          refine j_callVV X (nn := 2) (As := [.ref (ad 82), .ref (ad 80)]) (st := []) (ci := 8) (by decide) (wE_8 _ rfl) rfl aw_553 aw_554 (c_moveAll_82_80 l D y ad M5) aw_552 aw_555 aw_5 (by decide +kernel) ⟨by decide, by decide⟩ rfl (Nat.le_of_ble_eq_true rfl) ⟨by decide, by decide⟩ dX8_last_148 ?_
          rintro M_8 ⟨s_7, s_7_v⟩
          refine j_iload_n X 3 rfl rfl dX8_last_151 ?_
          refine j_if_ge X 162 (by decide) dX8_last_152 (fun c_9 => False.elim (by revert c_9; decide)) (fun c_9 => ?_)
          refine j_aload_n X 1 rfl rfl dX8_last_155 ?_
          refine j_ldc X (v := (-1000000002)) aw_565 dX8_last_156 ?_
          refine j_callVI X (nn := 1) (As := [.int (-1000000002)]) (st := []) (ci := 8) (by decide) (wE_8 _ rfl) rfl aw_144 aw_145 (c_X8_errs l D y ad M_8 (-1000000002) 2 (by decide) (by decide)) aw_143 aw_146 aw_5 (by decide +kernel) ⟨by decide, by decide⟩ rfl (Nat.le_of_ble_eq_true rfl) ⟨by decide, by decide⟩ dX8_last_158 ?_
          rintro r_ M1_ ⟨rfl, rfl⟩
          exact j_iret X hr hlocks dX8_last_161 (by unfold sp_last; (repeat' split) <;> first | rfl | omega | (exfalso; omega))
        · have c_6 : i_5 < 61 := by
            rcases Nat.lt_or_ge i_5 (61) with g | g
            · exact g
            · exact absurd (show nI 60 < nI i_5 from nI_lt (by omega) (by omega)) c_6
          refine j_aload_n X 1 rfl rfl dX8_last_48 ?_
          refine j_iconst X (v := 1) (by decide) dX8_last_49 ?_
          refine j_callVV X (nn := 1) (As := [.int 1]) (st := []) (ci := 8) (by decide) (wE_8 _ rfl) rfl aw_486 aw_487 (c_oneDay0_1 l D y ad M5 ((hs5 80 2 rfl).trans ((s_3 80 2 rfl).trans hz.2.2.1))) aw_485 aw_488 aw_5 (by decide +kernel) ⟨by decide, by decide⟩ rfl (Nat.le_of_ble_eq_true rfl) ⟨by decide, by decide⟩ dX8_last_50 ?_
          rintro M_11 s_10
          refine j_aload_n X 1 rfl rfl dX8_last_53 ?_
          refine j_callVI X (nn := 0) (As := []) (st := []) (ci := 8) (by decide) (wE_8 _ rfl) rfl aw_506 aw_507 (c_overSet0 l D y ad M_11 ((s_10 80 2 rfl).trans ((hs5 80 2 rfl).trans ((s_3 80 2 rfl).trans hz.2.2.1)))) aw_505 aw_508 aw_5 (by decide +kernel) ⟨by decide, by decide⟩ rfl (Nat.le_of_ble_eq_true rfl) ⟨by decide, by decide⟩ dX8_last_54 ?_
          rintro r_ M1_ ⟨rfl, rfl⟩
          refine j_iload X 5 rfl dX8_last_57 ?_
          refine j_iconst X (v := (-1)) (by decide) dX8_last_59 ?_
          refine j_ixor X dX8_last_60 ?_
          refine j_eqi (v := (-1)) (by decide) ?_
          refine j_iand X dX8_last_61 ?_
          refine j_eqi (v := 0) (by decide) ?_
          refine j_istore X [(6, .int 0), (5, .int (nI i_5)), (0, .ref (ad 79)), (1, .int what), (2, .int (-1)), (3, .int 0), (4, .int 0)] (by decide) rfl dX8_last_62 ?_
          refine j_iload X 6 rfl dX8_last_64 ?_
          refine j_iload X 0 rfl dX8_last_66 ?_
          refine j_ior X dX8_last_68 ?_
          refine j_eqi (v := 0) (by decide) ?_
          refine j_istore X [(4, .int 0), (6, .int 0), (5, .int (nI i_5)), (0, .ref (ad 79)), (1, .int what), (2, .int (-1)), (3, .int 0)] (by decide) rfl dX8_last_69 ?_
          refine j_iconst X (v := 0) (by decide) dX8_last_71 ?_
          refine j_istore X [(7, .int 0), (4, .int 0), (6, .int 0), (5, .int (nI i_5)), (0, .ref (ad 79)), (1, .int what), (2, .int (-1)), (3, .int 0)] (by decide) rfl dX8_last_72 ?_
          refine j_iload X 0 rfl dX8_last_74 ?_
          refine j_aload_n X 4 rfl rfl dX8_last_76 ?_
          refine j_get X (by decide) (wE_8 _ rfl) rfl awF8 0 (by decide) aw_92 rfl (v := .ref (ad 80)) rfl dX8_last_77 ?_
          refine j_iconst X (v := 2) (by decide) dX8_last_80 ?_
          refine j_iald X (by decide) rfl (by unfold vp_in; decide) dX8_last_81 ?_
          refine j_eqi (v := 0) ((s_10 80 2 rfl).trans ((hs5 80 2 rfl).trans ((s_3 80 2 rfl).trans hz.2.2.1))) ?_
          refine j_icmp_ge X 133 (by decide) dX8_last_82 (fun c_12 => ?_) (fun c_12 => False.elim (by revert c_12; decide))
          refine j_iinc X (v := (nI (i_5 + 1))) 3 [(5, .int (nI (i_5 + 1))), (7, .int 0), (4, .int 0), (6, .int 0), (0, .ref (ad 79)), (1, .int what), (2, .int (-1)), (3, .int 0)] rfl (show nI i_5 + Int32.ofInt 1 = _ from nI_1 i_5) (by decide) rfl dX8_last_133 ?_
          refine j_goto X 41 (by decide) dX8_last_136 ?_
          refine j_lv (lv1 := [(5, .int (nI (i_5 + 1))), (0, .ref (ad 79)), (1, .int what), (2, .int (-1)), (3, .int 0), (4, .int 0)]) [0, 4, 5, 6, 7, 2] rfl ?_
          exact ih5 (i_5 + 1) _ (by omega) (by omega) (sm_tr hs5 (sm_w s_10 (by intro b k hb; simp only [Bool.or_eq_false_iff, Bool.and_eq_false_iff, beq_eq_false_iff_ne, ne_eq, decide_eq_false_iff_not] at hb ⊢; omega)))
    refine j_lv (lv1 := [(5, .int (nI 1)), (0, .ref (ad 79)), (1, .int what), (2, .int (-1)), (3, .int 0), (4, .int 0)]) [0, 4, 5, 3, 2, 1] rfl ?_
    exact loop5 (61 + 1) 1 _ (by omega) (by omega) sm_rf
  · refine j_if_ne X 16 (by decide) dX8_last_6 (fun c_13 => False.elim (by revert c_13; decide)) (fun c_13 => ?_)
    refine j_aload_n X 0 rfl rfl dX8_last_9 ?_
    refine j_ldc X (v := (-1000000001)) aw_132 dX8_last_10 ?_
    refine j_callVI X (nn := 1) (As := [.int (-1000000001)]) (st := []) (ci := 8) (by decide) (wE_8 _ rfl) rfl aw_144 aw_145 (c_X8_errs l D y ad M (-1000000001) 1 (by decide) (by decide)) aw_143 aw_146 aw_5 (by decide +kernel) ⟨by decide, by decide⟩ rfl (Nat.le_of_ble_eq_true rfl) ⟨by decide, by decide⟩ dX8_last_12 ?_
    rintro r_ M1_ ⟨rfl, rfl⟩
    exact j_iret X hr hlocks dX8_last_15 (by unfold sp_last; (repeat' split) <;> first | rfl | omega | (exfalso; omega))
set_option maxRecDepth 100000 in
set_option maxHeartbeats 4000000 in
theorem c0_X8_seed (l : Launch) (D : va_G) (y : wY) (ad : Nat → Nat) (M : Mem) (hz : Z1 M) (v : Int32) : MI l D y ad yX8_seed (Cond.code yX8_seed cX8_seed 3 (some .int)) 6 M [.ref (ad 79), .int v] (fun r _ => sp_seed v = r) := by
  refine MI_of (by decide) (Nat.le_of_ble_eq_true rfl) ?_
  intro p e s m args below meth c X hr hlocks
  refine j_lv (lv1 := [(0, .ref (ad 79)), (1, .int v)]) [0, 1] rfl ?_
  refine j_aload_n X 0 rfl rfl dX8_seed_0 ?_
  refine j_get X (by decide) (wE_8 _ rfl) rfl awF8 0 (by decide) aw_92 rfl (v := .ref (ad 80)) rfl dX8_seed_1 ?_
  refine j_iconst X (v := 1) (by decide) dX8_seed_4 ?_
  refine j_iald X (by decide) rfl (by unfold vp_in; decide) dX8_seed_5 ?_
  refine j_eqi (v := 1) hz.2.1 ?_
  refine j_istore_n X [(2, .int 1), (0, .ref (ad 79)), (1, .int v)] rfl (by decide) rfl dX8_seed_6 ?_
  refine j_aload_n X 1 rfl rfl dX8_seed_7 ?_
  refine j_get X (by decide) (wE_8 _ rfl) rfl awF8 0 (by decide) aw_92 rfl (v := .ref (ad 80)) rfl dX8_seed_8 ?_
  refine j_iconst X (v := 1) (by decide) dX8_seed_11 ?_
  refine j_iload_n X 2 rfl rfl dX8_seed_12 ?_
  refine j_iast X (by decide) rfl (by unfold vp_in; decide) dX8_seed_13 ?_
  refine j_eqM (M1 := (up M 80 1 v)) rfl ?_
  refine j_iload_n X 0 rfl rfl dX8_seed_14 ?_
  exact j_iret X hr hlocks dX8_seed_15 (by unfold sp_seed; (repeat' split) <;> first | rfl | omega | (exfalso; omega))
set_option maxRecDepth 100000 in
set_option maxHeartbeats 4000000 in
theorem c0_X8_trace (l : Launch) (D : va_G) (y : wY) (ad : Nat → Nat) (M : Mem) (hz : Z1 M) (i : Int32) : MI l D y ad yX8_trace (Cond.code yX8_trace cX8_trace 2 (some .int)) 6 M [.ref (ad 79), .int i] (fun r _ => sp_trace i = r) := by
  refine MI_of (by decide) (Nat.le_of_ble_eq_true rfl) ?_
  intro p e s m args below meth c X hr hlocks
  refine j_lv (lv1 := [(0, .ref (ad 79)), (1, .int i)]) [0, 1] rfl ?_
  refine j_iload_n X 1 rfl rfl dX8_trace_0 ?_
  refine j_iconst X (v := 0) (by decide) dX8_trace_1 ?_
  refine j_aload_n X 0 rfl rfl dX8_trace_2 ?_
  refine j_get X (by decide) (wE_8 _ rfl) rfl awF8 20 (by decide) aw_776 rfl (v := .int (M 79 20)) rfl dX8_trace_3 ?_
  refine j_eqi (v := 0) hz.2.2.2.2.2.2.2.2.2.2.2.2.2.1 ?_
  refine j_iconst X (v := 1) (by decide) dX8_trace_6 ?_
  refine j_isub X dX8_trace_7 ?_
  refine j_eqi (v := (-1)) (by decide) ?_
  refine j_callSI X (nn := 3) (As := [.int i, .int 0, .int (-1)]) (st := []) aw_134 (c_X8_in l D y ad M i 0 (-1) 0 (-1) (by decide) (by decide)) aw_133 aw_135 aw_5 (by decide +kernel) ⟨by decide, by decide⟩ rfl (Nat.le_of_ble_eq_true rfl) ⟨by decide, by decide⟩ dX8_trace_8 ?_
  rintro r_ M1_ (⟨rfl, rfl, h_1⟩ | ⟨rfl, rfl, h_1⟩)
  · exfalso; omega
  · refine j_if_eq X 23 (by decide) dX8_trace_11 (fun c_2 => ?_) (fun c_2 => False.elim (by revert c_2; decide))
    refine j_aload_n X 0 rfl rfl dX8_trace_23 ?_
    refine j_ldc X (v := (-1000000002)) aw_565 dX8_trace_24 ?_
    refine j_callVI X (nn := 1) (As := [.int (-1000000002)]) (st := []) (ci := 8) (by decide) (wE_8 _ rfl) rfl aw_144 aw_145 (c_X8_errs l D y ad M (-1000000002) 2 (by decide) (by decide)) aw_143 aw_146 aw_5 (by decide +kernel) ⟨by decide, by decide⟩ rfl (Nat.le_of_ble_eq_true rfl) ⟨by decide, by decide⟩ dX8_trace_26 ?_
    rintro r_ M1_ ⟨rfl, rfl⟩
    exact j_iret X hr hlocks dX8_trace_29 (by unfold sp_trace; (repeat' split) <;> first | rfl | omega | (exfalso; omega))
set_option maxRecDepth 100000 in
set_option maxHeartbeats 4000000 in
theorem c0_X8_restore (l : Launch) (D : va_G) (y : wY) (ad : Nat → Nat) (M : Mem) (hz : Z1 M) : MI l D y ad yX8_restore (Cond.code yX8_restore cX8_restore 1 (some .int)) 6 M [.ref (ad 79)] (fun r _ => sp_restore = r) := by
  refine MI_of (by decide) (Nat.le_of_ble_eq_true rfl) ?_
  intro p e s m args below meth c X hr hlocks
  refine j_lv (lv1 := [(0, .ref (ad 79))]) [0] rfl ?_
  refine j_aload_n X 0 rfl rfl dX8_restore_0 ?_
  refine j_get X (by decide) (wE_8 _ rfl) rfl awF8 3 (by decide) aw_878 rfl (v := .int (M 79 3)) rfl dX8_restore_1 ?_
  refine j_eqi (v := 0) hz.2.2.2.2.2.2.2.2.2.2.2.1 ?_
  refine j_if_ne X 14 (by decide) dX8_restore_4 (fun c_1 => False.elim (by revert c_1; decide)) (fun c_1 => ?_)
  refine j_aload_n X 0 rfl rfl dX8_restore_7 ?_
  refine j_ldc X (v := (-1000000002)) aw_565 dX8_restore_8 ?_
  refine j_callVI X (nn := 1) (As := [.int (-1000000002)]) (st := []) (ci := 8) (by decide) (wE_8 _ rfl) rfl aw_144 aw_145 (c_X8_errs l D y ad M (-1000000002) 2 (by decide) (by decide)) aw_143 aw_146 aw_5 (by decide +kernel) ⟨by decide, by decide⟩ rfl (Nat.le_of_ble_eq_true rfl) ⟨by decide, by decide⟩ dX8_restore_10 ?_
  rintro r_ M1_ ⟨rfl, rfl⟩
  exact j_iret X hr hlocks dX8_restore_13 (by unfold sp_restore; (repeat' split) <;> first | rfl | omega | (exfalso; omega))
set_option maxRecDepth 100000 in
set_option maxHeartbeats 4000000 in
theorem c0_X8_tell (l : Launch) (D : va_G) (y : wY) (ad : Nat → Nat) (M : Mem) (hz : Z1 M) (v : Int32) : MI l D y ad yX8_tell (Cond.code yX8_tell cX8_tell 2 (some .int)) 6 M [.ref (ad 79), .int v] (fun r _ => sp_tell v = r) := by
  refine MI_of (by decide) (Nat.le_of_ble_eq_true rfl) ?_
  intro p e s m args below meth c X hr hlocks
  refine j_lv (lv1 := [(0, .ref (ad 79)), (1, .int v)]) [0, 1] rfl ?_
  refine j_aload_n X 0 rfl rfl dX8_tell_0 ?_
  refine j_get X (by decide) (wE_8 _ rfl) rfl awF8 0 (by decide) aw_92 rfl (v := .ref (ad 80)) rfl dX8_tell_1 ?_
  refine j_iconst X (v := 4) (by decide) dX8_tell_4 ?_
  refine j_iald X (by decide) rfl (by unfold vp_in; decide) dX8_tell_5 ?_
  refine j_eqi (v := 0) hz.2.2.2.2.1 ?_
  refine j_bipush X (v := 20) (by decide) dX8_tell_6 ?_
  refine j_icmp_ne X 18 (by decide) dX8_tell_8 (fun c_1 => ?_) (fun c_1 => False.elim (by revert c_1; decide))
  refine j_aload_n X 0 rfl rfl dX8_tell_18 ?_
  refine j_get X (by decide) (wE_8 _ rfl) rfl awF8 0 (by decide) aw_92 rfl (v := .ref (ad 80)) rfl dX8_tell_19 ?_
  refine j_bipush X (v := 124) (by decide) dX8_tell_22 ?_
  refine j_aload_n X 0 rfl rfl dX8_tell_24 ?_
  refine j_get X (by decide) (wE_8 _ rfl) rfl awF8 0 (by decide) aw_92 rfl (v := .ref (ad 80)) rfl dX8_tell_25 ?_
  refine j_iconst X (v := 4) (by decide) dX8_tell_28 ?_
  refine j_iald X (by decide) rfl (by unfold vp_in; decide) dX8_tell_29 ?_
  refine j_eqi (v := 0) hz.2.2.2.2.1 ?_
  refine j_iadd X dX8_tell_30 ?_
  refine j_eqi (v := 124) (by decide) ?_
  refine j_iload_n X 1 rfl rfl dX8_tell_31 ?_
  refine j_iast X (by decide) rfl (by unfold vp_in; decide) dX8_tell_32 ?_
  refine j_eqM (M1 := (up M 80 124 v)) rfl ?_
  refine j_aload_n X 0 rfl rfl dX8_tell_33 ?_
  refine j_get X (by decide) (wE_8 _ rfl) rfl awF8 0 (by decide) aw_92 rfl (v := .ref (ad 80)) rfl dX8_tell_34 ?_
  refine j_iconst X (v := 4) (by decide) dX8_tell_37 ?_
  refine j_dup2 X rfl rfl dX8_tell_38 ?_
  refine j_iald X (by decide) rfl (by unfold vp_in; decide) dX8_tell_39 ?_
  refine j_eqi (v := 0) ((show _ = M 80 4 from by simp [up]).trans hz.2.2.2.2.1) ?_
  refine j_iconst X (v := 1) (by decide) dX8_tell_40 ?_
  refine j_iadd X dX8_tell_41 ?_
  refine j_eqi (v := 1) (by decide) ?_
  refine j_iast X (by decide) rfl (by unfold vp_in; decide) dX8_tell_42 ?_
  refine j_eqM (M1 := (up (up M 80 124 v) 80 4 1)) rfl ?_
  refine j_aload_n X 0 rfl rfl dX8_tell_43 ?_
  refine j_get X (by decide) (wE_8 _ rfl) rfl awF8 0 (by decide) aw_92 rfl (v := .ref (ad 80)) rfl dX8_tell_44 ?_
  refine j_iconst X (v := 4) (by decide) dX8_tell_47 ?_
  refine j_iald X (by decide) rfl (by unfold vp_in; decide) dX8_tell_48 ?_
  refine j_eqi (v := 1) (by simp [up]) ?_
  exact j_iret X hr hlocks dX8_tell_49 (by unfold sp_tell; (repeat' split) <;> first | rfl | omega | (exfalso; omega))
set_option maxRecDepth 100000 in
set_option maxHeartbeats 4000000 in
theorem c0_X8_count (l : Launch) (D : va_G) (y : wY) (ad : Nat → Nat) (M : Mem) (hz : Z1 M) (what : Int32) : MI l D y ad yX8_count (Cond.code yX8_count cX8_count 2 (some .int)) 6 M [.ref (ad 79), .int what] (fun r _ => sp_count what = r) := by
  refine MI_of (by decide) (Nat.le_of_ble_eq_true rfl) ?_
  intro p e s m args below meth c X hr hlocks
  refine j_lv (lv1 := [(0, .ref (ad 79)), (1, .int what)]) [0, 1] rfl ?_
  refine j_iload_n X 1 rfl rfl dX8_count_0 ?_
  by_cases w_1 : what = 0
  · refine j_tsw_in X 64 0 w_1 (by decide) (by decide) (off := 63) rfl (by decide) dX8_count_1 ?_
    have qw_1 := ti_eq (n := 0) (by decide) w_1
    refine j_aload_n X 0 rfl rfl dX8_count_64 ?_
    refine j_get X (by decide) (wE_8 _ rfl) rfl awF8 0 (by decide) aw_92 rfl (v := .ref (ad 80)) rfl dX8_count_65 ?_
    refine j_iconst X (v := 2) (by decide) dX8_count_68 ?_
    refine j_iald X (by decide) rfl (by unfold vp_in; decide) dX8_count_69 ?_
    refine j_eqi (v := 0) hz.2.2.1 ?_
    exact j_iret X hr hlocks dX8_count_70 (by unfold sp_count; (repeat' split) <;> first | rfl | omega | (exfalso; omega))
  by_cases w_2 : what = 1
  · refine j_tsw_in X 71 1 w_2 (by decide) (by decide) (off := 70) rfl (by decide) dX8_count_1 ?_
    have qw_2 := ti_eq (n := 1) (by decide) w_2
    refine j_aload_n X 0 rfl rfl dX8_count_71 ?_
    refine j_get X (by decide) (wE_8 _ rfl) rfl awF8 0 (by decide) aw_92 rfl (v := .ref (ad 80)) rfl dX8_count_72 ?_
    refine j_iconst X (v := 0) (by decide) dX8_count_75 ?_
    refine j_iald X (by decide) rfl (by unfold vp_in; decide) dX8_count_76 ?_
    refine j_eqi (v := 0) hz.1 ?_
    exact j_iret X hr hlocks dX8_count_77 (by unfold sp_count; (repeat' split) <;> first | rfl | omega | (exfalso; omega))
  by_cases w_3 : what = 2
  · refine j_tsw_in X 78 2 w_3 (by decide) (by decide) (off := 77) rfl (by decide) dX8_count_1 ?_
    have qw_3 := ti_eq (n := 2) (by decide) w_3
    refine j_aload_n X 0 rfl rfl dX8_count_78 ?_
    refine j_get X (by decide) (wE_8 _ rfl) rfl awF8 0 (by decide) aw_92 rfl (v := .ref (ad 80)) rfl dX8_count_79 ?_
    refine j_bipush X (v := 7) (by decide) dX8_count_82 ?_
    refine j_iald X (by decide) rfl (by unfold vp_in; decide) dX8_count_84 ?_
    refine j_eqi (v := 0) hz.2.2.2.2.2.2.2.1 ?_
    exact j_iret X hr hlocks dX8_count_85 (by unfold sp_count; (repeat' split) <;> first | rfl | omega | (exfalso; omega))
  by_cases w_4 : what = 3
  · refine j_tsw_in X 86 3 w_4 (by decide) (by decide) (off := 85) rfl (by decide) dX8_count_1 ?_
    have qw_4 := ti_eq (n := 3) (by decide) w_4
    refine j_aload_n X 0 rfl rfl dX8_count_86 ?_
    refine j_get X (by decide) (wE_8 _ rfl) rfl awF8 0 (by decide) aw_92 rfl (v := .ref (ad 80)) rfl dX8_count_87 ?_
    refine j_bipush X (v := 8) (by decide) dX8_count_90 ?_
    refine j_iald X (by decide) rfl (by unfold vp_in; decide) dX8_count_92 ?_
    refine j_eqi (v := 1) hz.2.2.2.2.2.2.2.2.1 ?_
    exact j_iret X hr hlocks dX8_count_93 (by unfold sp_count; (repeat' split) <;> first | rfl | omega | (exfalso; omega))
  by_cases w_5 : what = 4
  · refine j_tsw_in X 94 4 w_5 (by decide) (by decide) (off := 93) rfl (by decide) dX8_count_1 ?_
    have qw_5 := ti_eq (n := 4) (by decide) w_5
    refine j_aload_n X 0 rfl rfl dX8_count_94 ?_
    refine j_get X (by decide) (wE_8 _ rfl) rfl awF8 0 (by decide) aw_92 rfl (v := .ref (ad 80)) rfl dX8_count_95 ?_
    refine j_bipush X (v := 9) (by decide) dX8_count_98 ?_
    refine j_iald X (by decide) rfl (by unfold vp_in; decide) dX8_count_100 ?_
    refine j_eqi (v := 0) hz.2.2.2.2.2.2.2.2.2.1 ?_
    exact j_iret X hr hlocks dX8_count_101 (by unfold sp_count; (repeat' split) <;> first | rfl | omega | (exfalso; omega))
  by_cases w_6 : what = 5
  · refine j_tsw_in X 102 5 w_6 (by decide) (by decide) (off := 101) rfl (by decide) dX8_count_1 ?_
    have qw_6 := ti_eq (n := 5) (by decide) w_6
    refine j_aload_n X 0 rfl rfl dX8_count_102 ?_
    refine j_get X (by decide) (wE_8 _ rfl) rfl awF8 0 (by decide) aw_92 rfl (v := .ref (ad 80)) rfl dX8_count_103 ?_
    refine j_bipush X (v := 10) (by decide) dX8_count_106 ?_
    refine j_iald X (by decide) rfl (by unfold vp_in; decide) dX8_count_108 ?_
    refine j_eqi (v := 0) hz.2.2.2.2.2.2.2.2.2.2.1 ?_
    exact j_iret X hr hlocks dX8_count_109 (by unfold sp_count; (repeat' split) <;> first | rfl | omega | (exfalso; omega))
  by_cases w_7 : what = 6
  · refine j_tsw_in X 110 6 w_7 (by decide) (by decide) (off := 109) rfl (by decide) dX8_count_1 ?_
    have qw_7 := ti_eq (n := 6) (by decide) w_7
    refine j_aload_n X 0 rfl rfl dX8_count_110 ?_
    refine j_callVI X (nn := 0) (As := []) (st := []) (ci := 8) (by decide) (wE_8 _ rfl) rfl aw_506 aw_507 (c_overSet0 l D y ad M hz.2.2.1) aw_505 aw_508 aw_5 (by decide +kernel) ⟨by decide, by decide⟩ rfl (Nat.le_of_ble_eq_true rfl) ⟨by decide, by decide⟩ dX8_count_111 ?_
    rintro r_ M1_ ⟨rfl, rfl⟩
    exact j_iret X hr hlocks dX8_count_114 (by unfold sp_count; (repeat' split) <;> first | rfl | omega | (exfalso; omega))
  by_cases w_8 : what = 7
  · refine j_tsw_in X 115 7 w_8 (by decide) (by decide) (off := 114) rfl (by decide) dX8_count_1 ?_
    have qw_8 := ti_eq (n := 7) (by decide) w_8
    refine j_aload_n X 0 rfl rfl dX8_count_115 ?_
    refine j_callVI X (nn := 0) (As := []) (st := []) (ci := 8) (by decide) (wE_8 _ rfl) rfl aw_916 aw_917 (c_edgesOfAll0 l D y ad M hz.2.2.1) aw_915 aw_918 aw_5 (by decide +kernel) ⟨by decide, by decide⟩ rfl (Nat.le_of_ble_eq_true rfl) ⟨by decide, by decide⟩ dX8_count_116 ?_
    rintro r_ M1_ ⟨rfl, rfl⟩
    exact j_iret X hr hlocks dX8_count_119 (by unfold sp_count; (repeat' split) <;> first | rfl | omega | (exfalso; omega))
  by_cases w_9 : what = 8
  · refine j_tsw_in X 120 8 w_9 (by decide) (by decide) (off := 119) rfl (by decide) dX8_count_1 ?_
    have qw_9 := ti_eq (n := 8) (by decide) w_9
    refine j_aload_n X 0 rfl rfl dX8_count_120 ?_
    refine j_get X (by decide) (wE_8 _ rfl) rfl awF8 0 (by decide) aw_92 rfl (v := .ref (ad 80)) rfl dX8_count_121 ?_
    refine j_iconst X (v := 3) (by decide) dX8_count_124 ?_
    refine j_iald X (by decide) rfl (by unfold vp_in; decide) dX8_count_125 ?_
    refine j_eqi (v := 0) hz.2.2.2.1 ?_
    exact j_iret X hr hlocks dX8_count_126 (by unfold sp_count; (repeat' split) <;> first | rfl | omega | (exfalso; omega))
  by_cases w_10 : what = 9
  · refine j_tsw_in X 127 9 w_10 (by decide) (by decide) (off := 126) rfl (by decide) dX8_count_1 ?_
    have qw_10 := ti_eq (n := 9) (by decide) w_10
    refine j_aload_n X 0 rfl rfl dX8_count_127 ?_
    refine j_get X (by decide) (wE_8 _ rfl) rfl awF8 0 (by decide) aw_92 rfl (v := .ref (ad 80)) rfl dX8_count_128 ?_
    refine j_iconst X (v := 4) (by decide) dX8_count_131 ?_
    refine j_iald X (by decide) rfl (by unfold vp_in; decide) dX8_count_132 ?_
    refine j_eqi (v := 0) hz.2.2.2.2.1 ?_
    exact j_iret X hr hlocks dX8_count_133 (by unfold sp_count; (repeat' split) <;> first | rfl | omega | (exfalso; omega))
  by_cases w_11 : what = 10
  · refine j_tsw_in X 134 10 w_11 (by decide) (by decide) (off := 133) rfl (by decide) dX8_count_1 ?_
    have qw_11 := ti_eq (n := 10) (by decide) w_11
    refine j_aload_n X 0 rfl rfl dX8_count_134 ?_
    refine j_get X (by decide) (wE_8 _ rfl) rfl awF8 20 (by decide) aw_776 rfl (v := .int (M 79 20)) rfl dX8_count_135 ?_
    refine j_eqi (v := 0) hz.2.2.2.2.2.2.2.2.2.2.2.2.2.1 ?_
    exact j_iret X hr hlocks dX8_count_138 (by unfold sp_count; (repeat' split) <;> first | rfl | omega | (exfalso; omega))
  by_cases w_12 : what = 11
  · refine j_tsw_in X 139 11 w_12 (by decide) (by decide) (off := 138) rfl (by decide) dX8_count_1 ?_
    have qw_12 := ti_eq (n := 11) (by decide) w_12
    refine j_aload_n X 0 rfl rfl dX8_count_139 ?_
    refine j_get X (by decide) (wE_8 _ rfl) rfl awF8 0 (by decide) aw_92 rfl (v := .ref (ad 80)) rfl dX8_count_140 ?_
    refine j_iconst X (v := 1) (by decide) dX8_count_143 ?_
    refine j_iald X (by decide) rfl (by unfold vp_in; decide) dX8_count_144 ?_
    refine j_eqi (v := 1) hz.2.1 ?_
    exact j_iret X hr hlocks dX8_count_145 (by unfold sp_count; (repeat' split) <;> first | rfl | omega | (exfalso; omega))
  refine j_tsw_out X 146 (tsw_out 11 (by decide) (fun j hj => by
    have hj : j = 0 ∨ j = 1 ∨ j = 2 ∨ j = 3 ∨ j = 4 ∨ j = 5 ∨ j = 6 ∨ j = 7 ∨ j = 8 ∨ j = 9 ∨ j = 10 ∨ j = 11 := by omega
    rcases hj with rfl | rfl | rfl | rfl | rfl | rfl | rfl | rfl | rfl | rfl | rfl | rfl
    · exact w_1
    · exact w_2
    · exact w_3
    · exact w_4
    · exact w_5
    · exact w_6
    · exact w_7
    · exact w_8
    · exact w_9
    · exact w_10
    · exact w_11
    · exact w_12
    )) (by decide) dX8_count_1 ?_
  have qw_1 := ti_ne (n := 0) (by decide) w_1
  have qw_2 := ti_ne (n := 1) (by decide) w_2
  have qw_3 := ti_ne (n := 2) (by decide) w_3
  have qw_4 := ti_ne (n := 3) (by decide) w_4
  have qw_5 := ti_ne (n := 4) (by decide) w_5
  have qw_6 := ti_ne (n := 5) (by decide) w_6
  have qw_7 := ti_ne (n := 6) (by decide) w_7
  have qw_8 := ti_ne (n := 7) (by decide) w_8
  have qw_9 := ti_ne (n := 8) (by decide) w_9
  have qw_10 := ti_ne (n := 9) (by decide) w_10
  have qw_11 := ti_ne (n := 10) (by decide) w_11
  have qw_12 := ti_ne (n := 11) (by decide) w_12
  refine j_aload_n X 0 rfl rfl dX8_count_146 ?_
  refine j_ldc X (v := (-1000000001)) aw_132 dX8_count_147 ?_
  refine j_callVI X (nn := 1) (As := [.int (-1000000001)]) (st := []) (ci := 8) (by decide) (wE_8 _ rfl) rfl aw_144 aw_145 (c_X8_errs l D y ad M (-1000000001) 1 (by decide) (by decide)) aw_143 aw_146 aw_5 (by decide +kernel) ⟨by decide, by decide⟩ rfl (Nat.le_of_ble_eq_true rfl) ⟨by decide, by decide⟩ dX8_count_149 ?_
  rintro r_ M1_ ⟨rfl, rfl⟩
  exact j_iret X hr hlocks dX8_count_152 (by unfold sp_count; (repeat' split) <;> first | rfl | omega | (exfalso; omega))
set_option maxRecDepth 100000 in
set_option maxHeartbeats 4000000 in
theorem c0_X8_check (l : Launch) (D : va_G) (y : wY) (ad : Nat → Nat) (M : Mem) (hz : Z1 M) : MI l D y ad yX8_check (Cond.code yX8_check cX8_check 4 (some .int)) 6 M [.ref (ad 79)] (fun r _ => sp_check = r) := by
  refine MI_of (by decide) (Nat.le_of_ble_eq_true rfl) ?_
  intro p e s m args below meth c X hr hlocks
  refine j_lv (lv1 := [(0, .ref (ad 79))]) [0] rfl ?_
  refine j_aload_n X 0 rfl rfl dX8_check_0 ?_
  refine j_get X (by decide) (wE_8 _ rfl) rfl awF8 0 (by decide) aw_92 rfl (v := .ref (ad 80)) rfl dX8_check_1 ?_
  refine j_iconst X (v := 4) (by decide) dX8_check_4 ?_
  refine j_iald X (by decide) rfl (by unfold vp_in; decide) dX8_check_5 ?_
  refine j_eqi (v := 0) hz.2.2.2.2.1 ?_
  refine j_istore_n X [(1, .int 0), (0, .ref (ad 79))] rfl (by decide) rfl dX8_check_6 ?_
  refine j_aload_n X 1 rfl rfl dX8_check_7 ?_
  refine j_get X (by decide) (wE_8 _ rfl) rfl awF8 0 (by decide) aw_92 rfl (v := .ref (ad 80)) rfl dX8_check_8 ?_
  refine j_iconst X (v := 4) (by decide) dX8_check_11 ?_
  refine j_iconst X (v := 0) (by decide) dX8_check_12 ?_
  refine j_iast X (by decide) rfl (by unfold vp_in; decide) dX8_check_13 ?_
  refine j_eqM (M1 := (up M 80 4 0)) rfl ?_
  refine j_aload_n X 1 rfl rfl dX8_check_14 ?_
  refine j_aload_n X 1 rfl rfl dX8_check_15 ?_
  refine j_get X (by decide) (wE_8 _ rfl) rfl awF8 0 (by decide) aw_92 rfl (v := .ref (ad 80)) rfl dX8_check_16 ?_
  refine j_aload_n X 1 rfl rfl dX8_check_19 ?_
  refine j_get X (by decide) (wE_8 _ rfl) rfl awF8 2 (by decide) aw_94 rfl (v := .ref (ad 82)) rfl dX8_check_20 ?_
  refine j_callVV X (nn := 2) (As := [.ref (ad 80), .ref (ad 82)]) (st := []) (ci := 8) (by decide) (wE_8 _ rfl) rfl aw_553 aw_554 (c_moveAll_80_82 l D y ad (up M 80 4 0)) aw_552 aw_555 aw_5 (by decide +kernel) ⟨by decide, by decide⟩ rfl (Nat.le_of_ble_eq_true rfl) ⟨by decide, by decide⟩ dX8_check_23 ?_
  rintro M_2 ⟨s_1, s_1_v⟩
  refine j_iconst X (v := 0) (by decide) dX8_check_26 ?_
  refine j_istore_n X [(2, .int 0), (1, .int 0), (0, .ref (ad 79))] rfl (by decide) rfl dX8_check_27 ?_
  refine j_iconst X (v := 1) (by decide) dX8_check_28 ?_
  refine j_istore_n X [(3, .int 1), (2, .int 0), (1, .int 0), (0, .ref (ad 79))] rfl (by decide) rfl dX8_check_29 ?_
  refine j_iload_n X 1 rfl rfl dX8_check_30 ?_
  refine j_iload_n X 2 rfl rfl dX8_check_31 ?_
  refine j_icmp_ge X 84 (by decide) dX8_check_32 (fun c_3 => ?_) (fun c_3 => False.elim (by revert c_3; decide))
  refine j_aload_n X 3 rfl rfl dX8_check_84 ?_
  refine j_aload_n X 3 rfl rfl dX8_check_85 ?_
  refine j_get X (by decide) (wE_8 _ rfl) rfl awF8 2 (by decide) aw_94 rfl (v := .ref (ad 82)) rfl dX8_check_86 ?_
  refine j_aload_n X 3 rfl rfl dX8_check_89 ?_
  refine j_get X (by decide) (wE_8 _ rfl) rfl awF8 0 (by decide) aw_92 rfl (v := .ref (ad 80)) rfl dX8_check_90 ?_
  refine j_callVV X (nn := 2) (As := [.ref (ad 82), .ref (ad 80)]) (st := []) (ci := 8) (by decide) (wE_8 _ rfl) rfl aw_553 aw_554 (c_moveAll_82_80 l D y ad M_2) aw_552 aw_555 aw_5 (by decide +kernel) ⟨by decide, by decide⟩ rfl (Nat.le_of_ble_eq_true rfl) ⟨by decide, by decide⟩ dX8_check_93 ?_
  rintro M_5 ⟨s_4, s_4_v⟩
  refine j_iload_n X 0 rfl rfl dX8_check_96 ?_
  refine j_if_eq X 104 (by decide) dX8_check_97 (fun c_6 => False.elim (by revert c_6; decide)) (fun c_6 => ?_)
  refine j_iconst X (v := 0) (by decide) dX8_check_100 ?_
  refine j_goto X 107 (by decide) dX8_check_101 ?_
  exact j_iret X hr hlocks dX8_check_107 (by unfold sp_check; (repeat' split) <;> first | rfl | omega | (exfalso; omega))
set_option maxRecDepth 100000 in
set_option maxHeartbeats 4000000 in
theorem c0_X8_told (l : Launch) (D : va_G) (y : wY) (ad : Nat → Nat) (M : Mem) (hz : Z1 M) (i : Int32) : MI l D y ad yX8_told (Cond.code yX8_told cX8_told 2 (some .int)) 6 M [.ref (ad 79), .int i] (fun r _ => sp_told i = r) := by
  refine MI_of (by decide) (Nat.le_of_ble_eq_true rfl) ?_
  intro p e s m args below meth c X hr hlocks
  refine j_lv (lv1 := [(0, .ref (ad 79)), (1, .int i)]) [0, 1] rfl ?_
  refine j_iload_n X 1 rfl rfl dX8_told_0 ?_
  refine j_iconst X (v := 1) (by decide) dX8_told_1 ?_
  refine j_iconst X (v := 5) (by decide) dX8_told_2 ?_
  refine j_callSI X (nn := 3) (As := [.int i, .int 1, .int 5]) (st := []) aw_134 (c_X8_in l D y ad M i 1 5 1 5 (by decide) (by decide)) aw_133 aw_135 aw_5 (by decide +kernel) ⟨by decide, by decide⟩ rfl (Nat.le_of_ble_eq_true rfl) ⟨by decide, by decide⟩ dX8_told_3 ?_
  rintro r_ M1_ (⟨rfl, rfl, h_1⟩ | ⟨rfl, rfl, h_1⟩)
  · refine j_if_eq X 18 (by decide) dX8_told_6 (fun c_2 => False.elim (by revert c_2; decide)) (fun c_2 => ?_)
    refine j_aload_n X 0 rfl rfl dX8_told_9 ?_
    refine j_get X (by decide) (wE_8 _ rfl) rfl awF8 5 (by decide) aw_95 rfl (v := .ref (ad 83)) rfl dX8_told_10 ?_
    refine j_iload_n X 1 rfl rfl dX8_told_13 ?_
    rcases is_1_5 h_1 with rfl | rfl | rfl | rfl | rfl
    · refine j_iald X (by decide) rfl (by unfold vp_in; decide) dX8_told_14 ?_
      refine j_eqi (v := 0) hz.2.2.2.2.2.2.2.2.2.2.2.2.2.2.2.2.2.2.1 ?_
      refine j_goto X 24 (by decide) dX8_told_15 ?_
      exact j_iret X hr hlocks dX8_told_24 (by unfold sp_told; (repeat' split) <;> first | rfl | omega | (exfalso; omega))
    · refine j_iald X (by decide) rfl (by unfold vp_in; decide) dX8_told_14 ?_
      refine j_eqi (v := 0) hz.2.2.2.2.2.2.2.2.2.2.2.2.2.2.2.2.2.2.2.1 ?_
      refine j_goto X 24 (by decide) dX8_told_15 ?_
      exact j_iret X hr hlocks dX8_told_24 (by unfold sp_told; (repeat' split) <;> first | rfl | omega | (exfalso; omega))
    · refine j_iald X (by decide) rfl (by unfold vp_in; decide) dX8_told_14 ?_
      refine j_eqi (v := 0) hz.2.2.2.2.2.2.2.2.2.2.2.2.2.2.2.2.2.2.2.2.1 ?_
      refine j_goto X 24 (by decide) dX8_told_15 ?_
      exact j_iret X hr hlocks dX8_told_24 (by unfold sp_told; (repeat' split) <;> first | rfl | omega | (exfalso; omega))
    · refine j_iald X (by decide) rfl (by unfold vp_in; decide) dX8_told_14 ?_
      refine j_eqi (v := 0) hz.2.2.2.2.2.2.2.2.2.2.2.2.2.2.2.2.2.2.2.2.2.1 ?_
      refine j_goto X 24 (by decide) dX8_told_15 ?_
      exact j_iret X hr hlocks dX8_told_24 (by unfold sp_told; (repeat' split) <;> first | rfl | omega | (exfalso; omega))
    · refine j_iald X (by decide) rfl (by unfold vp_in; decide) dX8_told_14 ?_
      refine j_eqi (v := 0) hz.2.2.2.2.2.2.2.2.2.2.2.2.2.2.2.2.2.2.2.2.2.2 ?_
      refine j_goto X 24 (by decide) dX8_told_15 ?_
      exact j_iret X hr hlocks dX8_told_24 (by unfold sp_told; (repeat' split) <;> first | rfl | omega | (exfalso; omega))
  · refine j_if_eq X 18 (by decide) dX8_told_6 (fun c_3 => ?_) (fun c_3 => False.elim (by revert c_3; decide))
    refine j_aload_n X 0 rfl rfl dX8_told_18 ?_
    refine j_ldc X (v := (-1000000001)) aw_132 dX8_told_19 ?_
    refine j_callVI X (nn := 1) (As := [.int (-1000000001)]) (st := []) (ci := 8) (by decide) (wE_8 _ rfl) rfl aw_144 aw_145 (c_X8_errs l D y ad M (-1000000001) 1 (by decide) (by decide)) aw_143 aw_146 aw_5 (by decide +kernel) ⟨by decide, by decide⟩ rfl (Nat.le_of_ble_eq_true rfl) ⟨by decide, by decide⟩ dX8_told_21 ?_
    rintro r_ M1_ ⟨rfl, rfl⟩
    exact j_iret X hr hlocks dX8_told_24 (by unfold sp_told; (repeat' split) <;> first | rfl | omega | (exfalso; omega))
set_option maxRecDepth 100000 in
set_option maxHeartbeats 4000000 in
theorem c0_X8_put (l : Launch) (D : va_G) (y : wY) (ad : Nat → Nat) (M : Mem) (hz : Z1 M) (sh i v : Int32) : MI l D y ad yX8_put (Cond.code yX8_put cX8_put 4 (some .int)) 6 M [.ref (ad 79), .int sh, .int i, .int v] (fun r _ => sp_put sh i v = r) := by
  refine MI_of (by decide) (Nat.le_of_ble_eq_true rfl) ?_
  intro p e s m args below meth c X hr hlocks
  refine j_lv (lv1 := [(0, .ref (ad 79)), (1, .int sh), (2, .int i), (3, .int v)]) [0, 1, 2, 3] rfl ?_
  refine j_iload_n X 1 rfl rfl dX8_put_0 ?_
  refine j_callSI X (nn := 1) (As := [.int sh]) (st := []) aw_653 (c_X8_isSheet l D y ad M sh) aw_652 aw_654 aw_5 (by decide +kernel) ⟨by decide, by decide⟩ rfl (Nat.le_of_ble_eq_true rfl) ⟨by decide, by decide⟩ dX8_put_1 ?_
  rintro r_ M1_ (⟨rfl, rfl, h_1⟩ | ⟨rfl, rfl, h_1⟩)
  · refine j_if_ne X 14 (by decide) dX8_put_4 (fun c_2 => ?_) (fun c_2 => False.elim (by revert c_2; decide))
    refine j_aload_n X 0 rfl rfl dX8_put_14 ?_
    refine j_get X (by decide) (wE_8 _ rfl) rfl awF8 15 (by decide) aw_99 rfl (v := .ref (ad 87)) rfl dX8_put_15 ?_
    refine j_iload_n X 1 rfl rfl dX8_put_18 ?_
    rcases is_0_3 h_1 with rfl | rfl | rfl | rfl
    · refine j_iald X (by decide) rfl (by unfold vp_in; decide) dX8_put_19 ?_
      refine j_eqi (v := 0) hz.2.2.2.2.2.2.2.2.2.2.2.2.2.2.1 ?_
      refine j_if_ne X 30 (by decide) dX8_put_20 (fun c_3 => False.elim (by revert c_3; decide)) (fun c_3 => ?_)
      refine j_aload_n X 0 rfl rfl dX8_put_23 ?_
      refine j_ldc X (v := (-1000000002)) aw_565 dX8_put_24 ?_
      refine j_callVI X (nn := 1) (As := [.int (-1000000002)]) (st := []) (ci := 8) (by decide) (wE_8 _ rfl) rfl aw_144 aw_145 (c_X8_errs l D y ad M (-1000000002) 2 (by decide) (by decide)) aw_143 aw_146 aw_5 (by decide +kernel) ⟨by decide, by decide⟩ rfl (Nat.le_of_ble_eq_true rfl) ⟨by decide, by decide⟩ dX8_put_26 ?_
      rintro r_ M1_ ⟨rfl, rfl⟩
      exact j_iret X hr hlocks dX8_put_29 (by unfold sp_put; (repeat' split) <;> first | rfl | omega | (exfalso; omega))
    · refine j_iald X (by decide) rfl (by unfold vp_in; decide) dX8_put_19 ?_
      refine j_eqi (v := 0) hz.2.2.2.2.2.2.2.2.2.2.2.2.2.2.2.1 ?_
      refine j_if_ne X 30 (by decide) dX8_put_20 (fun c_4 => False.elim (by revert c_4; decide)) (fun c_4 => ?_)
      refine j_aload_n X 0 rfl rfl dX8_put_23 ?_
      refine j_ldc X (v := (-1000000002)) aw_565 dX8_put_24 ?_
      refine j_callVI X (nn := 1) (As := [.int (-1000000002)]) (st := []) (ci := 8) (by decide) (wE_8 _ rfl) rfl aw_144 aw_145 (c_X8_errs l D y ad M (-1000000002) 2 (by decide) (by decide)) aw_143 aw_146 aw_5 (by decide +kernel) ⟨by decide, by decide⟩ rfl (Nat.le_of_ble_eq_true rfl) ⟨by decide, by decide⟩ dX8_put_26 ?_
      rintro r_ M1_ ⟨rfl, rfl⟩
      exact j_iret X hr hlocks dX8_put_29 (by unfold sp_put; (repeat' split) <;> first | rfl | omega | (exfalso; omega))
    · refine j_iald X (by decide) rfl (by unfold vp_in; decide) dX8_put_19 ?_
      refine j_eqi (v := 0) hz.2.2.2.2.2.2.2.2.2.2.2.2.2.2.2.2.1 ?_
      refine j_if_ne X 30 (by decide) dX8_put_20 (fun c_5 => False.elim (by revert c_5; decide)) (fun c_5 => ?_)
      refine j_aload_n X 0 rfl rfl dX8_put_23 ?_
      refine j_ldc X (v := (-1000000002)) aw_565 dX8_put_24 ?_
      refine j_callVI X (nn := 1) (As := [.int (-1000000002)]) (st := []) (ci := 8) (by decide) (wE_8 _ rfl) rfl aw_144 aw_145 (c_X8_errs l D y ad M (-1000000002) 2 (by decide) (by decide)) aw_143 aw_146 aw_5 (by decide +kernel) ⟨by decide, by decide⟩ rfl (Nat.le_of_ble_eq_true rfl) ⟨by decide, by decide⟩ dX8_put_26 ?_
      rintro r_ M1_ ⟨rfl, rfl⟩
      exact j_iret X hr hlocks dX8_put_29 (by unfold sp_put; (repeat' split) <;> first | rfl | omega | (exfalso; omega))
    · refine j_iald X (by decide) rfl (by unfold vp_in; decide) dX8_put_19 ?_
      refine j_eqi (v := 0) hz.2.2.2.2.2.2.2.2.2.2.2.2.2.2.2.2.2.1 ?_
      refine j_if_ne X 30 (by decide) dX8_put_20 (fun c_6 => False.elim (by revert c_6; decide)) (fun c_6 => ?_)
      refine j_aload_n X 0 rfl rfl dX8_put_23 ?_
      refine j_ldc X (v := (-1000000002)) aw_565 dX8_put_24 ?_
      refine j_callVI X (nn := 1) (As := [.int (-1000000002)]) (st := []) (ci := 8) (by decide) (wE_8 _ rfl) rfl aw_144 aw_145 (c_X8_errs l D y ad M (-1000000002) 2 (by decide) (by decide)) aw_143 aw_146 aw_5 (by decide +kernel) ⟨by decide, by decide⟩ rfl (Nat.le_of_ble_eq_true rfl) ⟨by decide, by decide⟩ dX8_put_26 ?_
      rintro r_ M1_ ⟨rfl, rfl⟩
      exact j_iret X hr hlocks dX8_put_29 (by unfold sp_put; (repeat' split) <;> first | rfl | omega | (exfalso; omega))
  · refine j_if_ne X 14 (by decide) dX8_put_4 (fun c_7 => False.elim (by revert c_7; decide)) (fun c_7 => ?_)
    refine j_aload_n X 0 rfl rfl dX8_put_7 ?_
    refine j_ldc X (v := (-1000000001)) aw_132 dX8_put_8 ?_
    refine j_callVI X (nn := 1) (As := [.int (-1000000001)]) (st := []) (ci := 8) (by decide) (wE_8 _ rfl) rfl aw_144 aw_145 (c_X8_errs l D y ad M (-1000000001) 1 (by decide) (by decide)) aw_143 aw_146 aw_5 (by decide +kernel) ⟨by decide, by decide⟩ rfl (Nat.le_of_ble_eq_true rfl) ⟨by decide, by decide⟩ dX8_put_10 ?_
    rintro r_ M1_ ⟨rfl, rfl⟩
    exact j_iret X hr hlocks dX8_put_13 (by unfold sp_put; (repeat' split) <;> first | rfl | omega | (exfalso; omega))
set_option maxRecDepth 100000 in
set_option maxHeartbeats 4000000 in
theorem c0_X8_edges (l : Launch) (D : va_G) (y : wY) (ad : Nat → Nat) (M : Mem) (hz : Z1 M) (sh : Int32) : MI l D y ad yX8_edges (Cond.code yX8_edges cX8_edges 3 (some .int)) 6 M [.ref (ad 79), .int sh] (fun r _ => sp_edges sh = r) := by
  refine MI_of (by decide) (Nat.le_of_ble_eq_true rfl) ?_
  intro p e s m args below meth c X hr hlocks
  refine j_lv (lv1 := [(0, .ref (ad 79)), (1, .int sh)]) [0, 1] rfl ?_
  refine j_iload_n X 1 rfl rfl dX8_edges_0 ?_
  refine j_callSI X (nn := 1) (As := [.int sh]) (st := []) aw_653 (c_X8_isSheet l D y ad M sh) aw_652 aw_654 aw_5 (by decide +kernel) ⟨by decide, by decide⟩ rfl (Nat.le_of_ble_eq_true rfl) ⟨by decide, by decide⟩ dX8_edges_1 ?_
  rintro r_ M1_ (⟨rfl, rfl, h_1⟩ | ⟨rfl, rfl, h_1⟩)
  · refine j_if_ne X 14 (by decide) dX8_edges_4 (fun c_2 => ?_) (fun c_2 => False.elim (by revert c_2; decide))
    refine j_aload_n X 0 rfl rfl dX8_edges_14 ?_
    refine j_get X (by decide) (wE_8 _ rfl) rfl awF8 15 (by decide) aw_99 rfl (v := .ref (ad 87)) rfl dX8_edges_15 ?_
    refine j_iload_n X 1 rfl rfl dX8_edges_18 ?_
    rcases is_0_3 h_1 with rfl | rfl | rfl | rfl
    · refine j_iald X (by decide) rfl (by unfold vp_in; decide) dX8_edges_19 ?_
      refine j_eqi (v := 0) hz.2.2.2.2.2.2.2.2.2.2.2.2.2.2.1 ?_
      refine j_if_ne X 30 (by decide) dX8_edges_20 (fun c_3 => False.elim (by revert c_3; decide)) (fun c_3 => ?_)
      refine j_aload_n X 0 rfl rfl dX8_edges_23 ?_
      refine j_ldc X (v := (-1000000002)) aw_565 dX8_edges_24 ?_
      refine j_callVI X (nn := 1) (As := [.int (-1000000002)]) (st := []) (ci := 8) (by decide) (wE_8 _ rfl) rfl aw_144 aw_145 (c_X8_errs l D y ad M (-1000000002) 2 (by decide) (by decide)) aw_143 aw_146 aw_5 (by decide +kernel) ⟨by decide, by decide⟩ rfl (Nat.le_of_ble_eq_true rfl) ⟨by decide, by decide⟩ dX8_edges_26 ?_
      rintro r_ M1_ ⟨rfl, rfl⟩
      exact j_iret X hr hlocks dX8_edges_29 (by unfold sp_edges; (repeat' split) <;> first | rfl | omega | (exfalso; omega))
    · refine j_iald X (by decide) rfl (by unfold vp_in; decide) dX8_edges_19 ?_
      refine j_eqi (v := 0) hz.2.2.2.2.2.2.2.2.2.2.2.2.2.2.2.1 ?_
      refine j_if_ne X 30 (by decide) dX8_edges_20 (fun c_4 => False.elim (by revert c_4; decide)) (fun c_4 => ?_)
      refine j_aload_n X 0 rfl rfl dX8_edges_23 ?_
      refine j_ldc X (v := (-1000000002)) aw_565 dX8_edges_24 ?_
      refine j_callVI X (nn := 1) (As := [.int (-1000000002)]) (st := []) (ci := 8) (by decide) (wE_8 _ rfl) rfl aw_144 aw_145 (c_X8_errs l D y ad M (-1000000002) 2 (by decide) (by decide)) aw_143 aw_146 aw_5 (by decide +kernel) ⟨by decide, by decide⟩ rfl (Nat.le_of_ble_eq_true rfl) ⟨by decide, by decide⟩ dX8_edges_26 ?_
      rintro r_ M1_ ⟨rfl, rfl⟩
      exact j_iret X hr hlocks dX8_edges_29 (by unfold sp_edges; (repeat' split) <;> first | rfl | omega | (exfalso; omega))
    · refine j_iald X (by decide) rfl (by unfold vp_in; decide) dX8_edges_19 ?_
      refine j_eqi (v := 0) hz.2.2.2.2.2.2.2.2.2.2.2.2.2.2.2.2.1 ?_
      refine j_if_ne X 30 (by decide) dX8_edges_20 (fun c_5 => False.elim (by revert c_5; decide)) (fun c_5 => ?_)
      refine j_aload_n X 0 rfl rfl dX8_edges_23 ?_
      refine j_ldc X (v := (-1000000002)) aw_565 dX8_edges_24 ?_
      refine j_callVI X (nn := 1) (As := [.int (-1000000002)]) (st := []) (ci := 8) (by decide) (wE_8 _ rfl) rfl aw_144 aw_145 (c_X8_errs l D y ad M (-1000000002) 2 (by decide) (by decide)) aw_143 aw_146 aw_5 (by decide +kernel) ⟨by decide, by decide⟩ rfl (Nat.le_of_ble_eq_true rfl) ⟨by decide, by decide⟩ dX8_edges_26 ?_
      rintro r_ M1_ ⟨rfl, rfl⟩
      exact j_iret X hr hlocks dX8_edges_29 (by unfold sp_edges; (repeat' split) <;> first | rfl | omega | (exfalso; omega))
    · refine j_iald X (by decide) rfl (by unfold vp_in; decide) dX8_edges_19 ?_
      refine j_eqi (v := 0) hz.2.2.2.2.2.2.2.2.2.2.2.2.2.2.2.2.2.1 ?_
      refine j_if_ne X 30 (by decide) dX8_edges_20 (fun c_6 => False.elim (by revert c_6; decide)) (fun c_6 => ?_)
      refine j_aload_n X 0 rfl rfl dX8_edges_23 ?_
      refine j_ldc X (v := (-1000000002)) aw_565 dX8_edges_24 ?_
      refine j_callVI X (nn := 1) (As := [.int (-1000000002)]) (st := []) (ci := 8) (by decide) (wE_8 _ rfl) rfl aw_144 aw_145 (c_X8_errs l D y ad M (-1000000002) 2 (by decide) (by decide)) aw_143 aw_146 aw_5 (by decide +kernel) ⟨by decide, by decide⟩ rfl (Nat.le_of_ble_eq_true rfl) ⟨by decide, by decide⟩ dX8_edges_26 ?_
      rintro r_ M1_ ⟨rfl, rfl⟩
      exact j_iret X hr hlocks dX8_edges_29 (by unfold sp_edges; (repeat' split) <;> first | rfl | omega | (exfalso; omega))
  · refine j_if_ne X 14 (by decide) dX8_edges_4 (fun c_7 => False.elim (by revert c_7; decide)) (fun c_7 => ?_)
    refine j_aload_n X 0 rfl rfl dX8_edges_7 ?_
    refine j_ldc X (v := (-1000000001)) aw_132 dX8_edges_8 ?_
    refine j_callVI X (nn := 1) (As := [.int (-1000000001)]) (st := []) (ci := 8) (by decide) (wE_8 _ rfl) rfl aw_144 aw_145 (c_X8_errs l D y ad M (-1000000001) 1 (by decide) (by decide)) aw_143 aw_146 aw_5 (by decide +kernel) ⟨by decide, by decide⟩ rfl (Nat.le_of_ble_eq_true rfl) ⟨by decide, by decide⟩ dX8_edges_10 ?_
    rintro r_ M1_ ⟨rfl, rfl⟩
    exact j_iret X hr hlocks dX8_edges_13 (by unfold sp_edges; (repeat' split) <;> first | rfl | omega | (exfalso; omega))
set_option maxRecDepth 100000 in
set_option maxHeartbeats 4000000 in
theorem c0_X8_judge (l : Launch) (D : va_G) (y : wY) (ad : Nat → Nat) (M : Mem) (hz : Z1 M) (sh : Int32) : MI l D y ad yX8_judge (Cond.code yX8_judge cX8_judge 3 (some .int)) 6 M [.ref (ad 79), .int sh] (fun r _ => sp_judge sh = r) := by
  refine MI_of (by decide) (Nat.le_of_ble_eq_true rfl) ?_
  intro p e s m args below meth c X hr hlocks
  refine j_lv (lv1 := [(0, .ref (ad 79)), (1, .int sh)]) [0, 1] rfl ?_
  refine j_iload_n X 1 rfl rfl dX8_judge_0 ?_
  refine j_callSI X (nn := 1) (As := [.int sh]) (st := []) aw_653 (c_X8_isSheet l D y ad M sh) aw_652 aw_654 aw_5 (by decide +kernel) ⟨by decide, by decide⟩ rfl (Nat.le_of_ble_eq_true rfl) ⟨by decide, by decide⟩ dX8_judge_1 ?_
  rintro r_ M1_ (⟨rfl, rfl, h_1⟩ | ⟨rfl, rfl, h_1⟩)
  · refine j_if_ne X 14 (by decide) dX8_judge_4 (fun c_2 => ?_) (fun c_2 => False.elim (by revert c_2; decide))
    refine j_aload_n X 0 rfl rfl dX8_judge_14 ?_
    refine j_get X (by decide) (wE_8 _ rfl) rfl awF8 15 (by decide) aw_99 rfl (v := .ref (ad 87)) rfl dX8_judge_15 ?_
    refine j_iload_n X 1 rfl rfl dX8_judge_18 ?_
    rcases is_0_3 h_1 with rfl | rfl | rfl | rfl
    · refine j_iald X (by decide) rfl (by unfold vp_in; decide) dX8_judge_19 ?_
      refine j_eqi (v := 0) hz.2.2.2.2.2.2.2.2.2.2.2.2.2.2.1 ?_
      refine j_if_ne X 30 (by decide) dX8_judge_20 (fun c_3 => False.elim (by revert c_3; decide)) (fun c_3 => ?_)
      refine j_aload_n X 0 rfl rfl dX8_judge_23 ?_
      refine j_ldc X (v := (-1000000002)) aw_565 dX8_judge_24 ?_
      refine j_callVI X (nn := 1) (As := [.int (-1000000002)]) (st := []) (ci := 8) (by decide) (wE_8 _ rfl) rfl aw_144 aw_145 (c_X8_errs l D y ad M (-1000000002) 2 (by decide) (by decide)) aw_143 aw_146 aw_5 (by decide +kernel) ⟨by decide, by decide⟩ rfl (Nat.le_of_ble_eq_true rfl) ⟨by decide, by decide⟩ dX8_judge_26 ?_
      rintro r_ M1_ ⟨rfl, rfl⟩
      exact j_iret X hr hlocks dX8_judge_29 (by unfold sp_judge; (repeat' split) <;> first | rfl | omega | (exfalso; omega))
    · refine j_iald X (by decide) rfl (by unfold vp_in; decide) dX8_judge_19 ?_
      refine j_eqi (v := 0) hz.2.2.2.2.2.2.2.2.2.2.2.2.2.2.2.1 ?_
      refine j_if_ne X 30 (by decide) dX8_judge_20 (fun c_4 => False.elim (by revert c_4; decide)) (fun c_4 => ?_)
      refine j_aload_n X 0 rfl rfl dX8_judge_23 ?_
      refine j_ldc X (v := (-1000000002)) aw_565 dX8_judge_24 ?_
      refine j_callVI X (nn := 1) (As := [.int (-1000000002)]) (st := []) (ci := 8) (by decide) (wE_8 _ rfl) rfl aw_144 aw_145 (c_X8_errs l D y ad M (-1000000002) 2 (by decide) (by decide)) aw_143 aw_146 aw_5 (by decide +kernel) ⟨by decide, by decide⟩ rfl (Nat.le_of_ble_eq_true rfl) ⟨by decide, by decide⟩ dX8_judge_26 ?_
      rintro r_ M1_ ⟨rfl, rfl⟩
      exact j_iret X hr hlocks dX8_judge_29 (by unfold sp_judge; (repeat' split) <;> first | rfl | omega | (exfalso; omega))
    · refine j_iald X (by decide) rfl (by unfold vp_in; decide) dX8_judge_19 ?_
      refine j_eqi (v := 0) hz.2.2.2.2.2.2.2.2.2.2.2.2.2.2.2.2.1 ?_
      refine j_if_ne X 30 (by decide) dX8_judge_20 (fun c_5 => False.elim (by revert c_5; decide)) (fun c_5 => ?_)
      refine j_aload_n X 0 rfl rfl dX8_judge_23 ?_
      refine j_ldc X (v := (-1000000002)) aw_565 dX8_judge_24 ?_
      refine j_callVI X (nn := 1) (As := [.int (-1000000002)]) (st := []) (ci := 8) (by decide) (wE_8 _ rfl) rfl aw_144 aw_145 (c_X8_errs l D y ad M (-1000000002) 2 (by decide) (by decide)) aw_143 aw_146 aw_5 (by decide +kernel) ⟨by decide, by decide⟩ rfl (Nat.le_of_ble_eq_true rfl) ⟨by decide, by decide⟩ dX8_judge_26 ?_
      rintro r_ M1_ ⟨rfl, rfl⟩
      exact j_iret X hr hlocks dX8_judge_29 (by unfold sp_judge; (repeat' split) <;> first | rfl | omega | (exfalso; omega))
    · refine j_iald X (by decide) rfl (by unfold vp_in; decide) dX8_judge_19 ?_
      refine j_eqi (v := 0) hz.2.2.2.2.2.2.2.2.2.2.2.2.2.2.2.2.2.1 ?_
      refine j_if_ne X 30 (by decide) dX8_judge_20 (fun c_6 => False.elim (by revert c_6; decide)) (fun c_6 => ?_)
      refine j_aload_n X 0 rfl rfl dX8_judge_23 ?_
      refine j_ldc X (v := (-1000000002)) aw_565 dX8_judge_24 ?_
      refine j_callVI X (nn := 1) (As := [.int (-1000000002)]) (st := []) (ci := 8) (by decide) (wE_8 _ rfl) rfl aw_144 aw_145 (c_X8_errs l D y ad M (-1000000002) 2 (by decide) (by decide)) aw_143 aw_146 aw_5 (by decide +kernel) ⟨by decide, by decide⟩ rfl (Nat.le_of_ble_eq_true rfl) ⟨by decide, by decide⟩ dX8_judge_26 ?_
      rintro r_ M1_ ⟨rfl, rfl⟩
      exact j_iret X hr hlocks dX8_judge_29 (by unfold sp_judge; (repeat' split) <;> first | rfl | omega | (exfalso; omega))
  · refine j_if_ne X 14 (by decide) dX8_judge_4 (fun c_7 => False.elim (by revert c_7; decide)) (fun c_7 => ?_)
    refine j_aload_n X 0 rfl rfl dX8_judge_7 ?_
    refine j_ldc X (v := (-1000000001)) aw_132 dX8_judge_8 ?_
    refine j_callVI X (nn := 1) (As := [.int (-1000000001)]) (st := []) (ci := 8) (by decide) (wE_8 _ rfl) rfl aw_144 aw_145 (c_X8_errs l D y ad M (-1000000001) 1 (by decide) (by decide)) aw_143 aw_146 aw_5 (by decide +kernel) ⟨by decide, by decide⟩ rfl (Nat.le_of_ble_eq_true rfl) ⟨by decide, by decide⟩ dX8_judge_10 ?_
    rintro r_ M1_ ⟨rfl, rfl⟩
    exact j_iret X hr hlocks dX8_judge_13 (by unfold sp_judge; (repeat' split) <;> first | rfl | omega | (exfalso; omega))
set_option maxRecDepth 100000 in
set_option maxHeartbeats 4000000 in
theorem c0_X8_sparks (l : Launch) (D : va_G) (y : wY) (ad : Nat → Nat) (M : Mem) (hz : Z1 M) (sh what : Int32) : MI l D y ad yX8_sparks (Cond.code yX8_sparks cX8_sparks 5 (some .int)) 6 M [.ref (ad 79), .int sh, .int what] (fun r _ => sp_sparks sh what = r) := by
  refine MI_of (by decide) (Nat.le_of_ble_eq_true rfl) ?_
  intro p e s m args below meth c X hr hlocks
  refine j_lv (lv1 := [(0, .ref (ad 79)), (1, .int sh), (2, .int what)]) [0, 1, 2] rfl ?_
  refine j_iload_n X 1 rfl rfl dX8_sparks_0 ?_
  refine j_callSI X (nn := 1) (As := [.int sh]) (st := []) aw_653 (c_X8_isSheet l D y ad M sh) aw_652 aw_654 aw_5 (by decide +kernel) ⟨by decide, by decide⟩ rfl (Nat.le_of_ble_eq_true rfl) ⟨by decide, by decide⟩ dX8_sparks_1 ?_
  rintro r_ M1_ (⟨rfl, rfl, h_1⟩ | ⟨rfl, rfl, h_1⟩)
  · refine j_if_eq X 16 (by decide) dX8_sparks_4 (fun c_2 => False.elim (by revert c_2; decide)) (fun c_2 => ?_)
    refine j_iload_n X 2 rfl rfl dX8_sparks_7 ?_
    refine j_iconst X (v := 0) (by decide) dX8_sparks_8 ?_
    refine j_iconst X (v := 1) (by decide) dX8_sparks_9 ?_
    refine j_callSI X (nn := 3) (As := [.int what, .int 0, .int 1]) (st := []) aw_134 (c_X8_in l D y ad M what 0 1 0 1 (by decide) (by decide)) aw_133 aw_135 aw_5 (by decide +kernel) ⟨by decide, by decide⟩ rfl (Nat.le_of_ble_eq_true rfl) ⟨by decide, by decide⟩ dX8_sparks_10 ?_
    rintro r_ M1_ (⟨rfl, rfl, h_3⟩ | ⟨rfl, rfl, h_3⟩)
    · refine j_if_ne X 23 (by decide) dX8_sparks_13 (fun c_4 => ?_) (fun c_4 => False.elim (by revert c_4; decide))
      refine j_aload_n X 0 rfl rfl dX8_sparks_23 ?_
      refine j_get X (by decide) (wE_8 _ rfl) rfl awF8 15 (by decide) aw_99 rfl (v := .ref (ad 87)) rfl dX8_sparks_24 ?_
      refine j_iload_n X 1 rfl rfl dX8_sparks_27 ?_
      rcases is_0_3 h_1 with rfl | rfl | rfl | rfl
      · refine j_iald X (by decide) rfl (by unfold vp_in; decide) dX8_sparks_28 ?_
        refine j_eqi (v := 0) hz.2.2.2.2.2.2.2.2.2.2.2.2.2.2.1 ?_
        refine j_if_eq X 47 (by decide) dX8_sparks_29 (fun c_5 => ?_) (fun c_5 => False.elim (by revert c_5; decide))
        refine j_aload_n X 0 rfl rfl dX8_sparks_47 ?_
        refine j_ldc X (v := (-1000000002)) aw_565 dX8_sparks_48 ?_
        refine j_callVI X (nn := 1) (As := [.int (-1000000002)]) (st := []) (ci := 8) (by decide) (wE_8 _ rfl) rfl aw_144 aw_145 (c_X8_errs l D y ad M (-1000000002) 2 (by decide) (by decide)) aw_143 aw_146 aw_5 (by decide +kernel) ⟨by decide, by decide⟩ rfl (Nat.le_of_ble_eq_true rfl) ⟨by decide, by decide⟩ dX8_sparks_50 ?_
        rintro r_ M1_ ⟨rfl, rfl⟩
        exact j_iret X hr hlocks dX8_sparks_53 (by unfold sp_sparks; (repeat' split) <;> first | rfl | omega | (exfalso; omega))
      · refine j_iald X (by decide) rfl (by unfold vp_in; decide) dX8_sparks_28 ?_
        refine j_eqi (v := 0) hz.2.2.2.2.2.2.2.2.2.2.2.2.2.2.2.1 ?_
        refine j_if_eq X 47 (by decide) dX8_sparks_29 (fun c_6 => ?_) (fun c_6 => False.elim (by revert c_6; decide))
        refine j_aload_n X 0 rfl rfl dX8_sparks_47 ?_
        refine j_ldc X (v := (-1000000002)) aw_565 dX8_sparks_48 ?_
        refine j_callVI X (nn := 1) (As := [.int (-1000000002)]) (st := []) (ci := 8) (by decide) (wE_8 _ rfl) rfl aw_144 aw_145 (c_X8_errs l D y ad M (-1000000002) 2 (by decide) (by decide)) aw_143 aw_146 aw_5 (by decide +kernel) ⟨by decide, by decide⟩ rfl (Nat.le_of_ble_eq_true rfl) ⟨by decide, by decide⟩ dX8_sparks_50 ?_
        rintro r_ M1_ ⟨rfl, rfl⟩
        exact j_iret X hr hlocks dX8_sparks_53 (by unfold sp_sparks; (repeat' split) <;> first | rfl | omega | (exfalso; omega))
      · refine j_iald X (by decide) rfl (by unfold vp_in; decide) dX8_sparks_28 ?_
        refine j_eqi (v := 0) hz.2.2.2.2.2.2.2.2.2.2.2.2.2.2.2.2.1 ?_
        refine j_if_eq X 47 (by decide) dX8_sparks_29 (fun c_7 => ?_) (fun c_7 => False.elim (by revert c_7; decide))
        refine j_aload_n X 0 rfl rfl dX8_sparks_47 ?_
        refine j_ldc X (v := (-1000000002)) aw_565 dX8_sparks_48 ?_
        refine j_callVI X (nn := 1) (As := [.int (-1000000002)]) (st := []) (ci := 8) (by decide) (wE_8 _ rfl) rfl aw_144 aw_145 (c_X8_errs l D y ad M (-1000000002) 2 (by decide) (by decide)) aw_143 aw_146 aw_5 (by decide +kernel) ⟨by decide, by decide⟩ rfl (Nat.le_of_ble_eq_true rfl) ⟨by decide, by decide⟩ dX8_sparks_50 ?_
        rintro r_ M1_ ⟨rfl, rfl⟩
        exact j_iret X hr hlocks dX8_sparks_53 (by unfold sp_sparks; (repeat' split) <;> first | rfl | omega | (exfalso; omega))
      · refine j_iald X (by decide) rfl (by unfold vp_in; decide) dX8_sparks_28 ?_
        refine j_eqi (v := 0) hz.2.2.2.2.2.2.2.2.2.2.2.2.2.2.2.2.2.1 ?_
        refine j_if_eq X 47 (by decide) dX8_sparks_29 (fun c_8 => ?_) (fun c_8 => False.elim (by revert c_8; decide))
        refine j_aload_n X 0 rfl rfl dX8_sparks_47 ?_
        refine j_ldc X (v := (-1000000002)) aw_565 dX8_sparks_48 ?_
        refine j_callVI X (nn := 1) (As := [.int (-1000000002)]) (st := []) (ci := 8) (by decide) (wE_8 _ rfl) rfl aw_144 aw_145 (c_X8_errs l D y ad M (-1000000002) 2 (by decide) (by decide)) aw_143 aw_146 aw_5 (by decide +kernel) ⟨by decide, by decide⟩ rfl (Nat.le_of_ble_eq_true rfl) ⟨by decide, by decide⟩ dX8_sparks_50 ?_
        rintro r_ M1_ ⟨rfl, rfl⟩
        exact j_iret X hr hlocks dX8_sparks_53 (by unfold sp_sparks; (repeat' split) <;> first | rfl | omega | (exfalso; omega))
    · refine j_if_ne X 23 (by decide) dX8_sparks_13 (fun c_9 => False.elim (by revert c_9; decide)) (fun c_9 => ?_)
      refine j_aload_n X 0 rfl rfl dX8_sparks_16 ?_
      refine j_ldc X (v := (-1000000001)) aw_132 dX8_sparks_17 ?_
      refine j_callVI X (nn := 1) (As := [.int (-1000000001)]) (st := []) (ci := 8) (by decide) (wE_8 _ rfl) rfl aw_144 aw_145 (c_X8_errs l D y ad M (-1000000001) 1 (by decide) (by decide)) aw_143 aw_146 aw_5 (by decide +kernel) ⟨by decide, by decide⟩ rfl (Nat.le_of_ble_eq_true rfl) ⟨by decide, by decide⟩ dX8_sparks_19 ?_
      rintro r_ M1_ ⟨rfl, rfl⟩
      exact j_iret X hr hlocks dX8_sparks_22 (by unfold sp_sparks; (repeat' split) <;> first | rfl | omega | (exfalso; omega))
  · refine j_if_eq X 16 (by decide) dX8_sparks_4 (fun c_10 => ?_) (fun c_10 => False.elim (by revert c_10; decide))
    refine j_aload_n X 0 rfl rfl dX8_sparks_16 ?_
    refine j_ldc X (v := (-1000000001)) aw_132 dX8_sparks_17 ?_
    refine j_callVI X (nn := 1) (As := [.int (-1000000001)]) (st := []) (ci := 8) (by decide) (wE_8 _ rfl) rfl aw_144 aw_145 (c_X8_errs l D y ad M (-1000000001) 1 (by decide) (by decide)) aw_143 aw_146 aw_5 (by decide +kernel) ⟨by decide, by decide⟩ rfl (Nat.le_of_ble_eq_true rfl) ⟨by decide, by decide⟩ dX8_sparks_19 ?_
    rintro r_ M1_ ⟨rfl, rfl⟩
    exact j_iret X hr hlocks dX8_sparks_22 (by unfold sp_sparks; (repeat' split) <;> first | rfl | omega | (exfalso; omega))
set_option maxRecDepth 100000 in
set_option maxHeartbeats 4000000 in
theorem c0_X8_move (l : Launch) (D : va_G) (y : wY) (ad : Nat → Nat) (M : Mem) (hz : Z1 M) (sh i o j n : Int32) : MI l D y ad yX8_move (Cond.code yX8_move cX8_move 7 (some .int)) 6 M [.ref (ad 79), .int sh, .int i, .int o, .int j, .int n] (fun r _ => sp_move sh i o j n = r) := by
  refine MI_of (by decide) (Nat.le_of_ble_eq_true rfl) ?_
  intro p e s m args below meth c X hr hlocks
  refine j_lv (lv1 := [(0, .ref (ad 79)), (1, .int sh), (2, .int i), (3, .int o), (4, .int j), (5, .int n)]) [0, 1, 2, 3, 4, 5] rfl ?_
  refine j_iload_n X 1 rfl rfl dX8_move_0 ?_
  refine j_callSI X (nn := 1) (As := [.int sh]) (st := []) aw_653 (c_X8_isSheet l D y ad M sh) aw_652 aw_654 aw_5 (by decide +kernel) ⟨by decide, by decide⟩ rfl (Nat.le_of_ble_eq_true rfl) ⟨by decide, by decide⟩ dX8_move_1 ?_
  rintro r_ M1_ (⟨rfl, rfl, h_1⟩ | ⟨rfl, rfl, h_1⟩)
  · refine j_if_eq X 14 (by decide) dX8_move_4 (fun c_2 => False.elim (by revert c_2; decide)) (fun c_2 => ?_)
    refine j_iload_n X 3 rfl rfl dX8_move_7 ?_
    refine j_callSI X (nn := 1) (As := [.int o]) (st := []) aw_653 (c_X8_isSheet l D y ad M o) aw_652 aw_654 aw_5 (by decide +kernel) ⟨by decide, by decide⟩ rfl (Nat.le_of_ble_eq_true rfl) ⟨by decide, by decide⟩ dX8_move_8 ?_
    rintro r_ M1_ (⟨rfl, rfl, h_3⟩ | ⟨rfl, rfl, h_3⟩)
    · refine j_if_ne X 21 (by decide) dX8_move_11 (fun c_4 => ?_) (fun c_4 => False.elim (by revert c_4; decide))
      refine j_aload_n X 0 rfl rfl dX8_move_21 ?_
      refine j_get X (by decide) (wE_8 _ rfl) rfl awF8 15 (by decide) aw_99 rfl (v := .ref (ad 87)) rfl dX8_move_22 ?_
      refine j_iload_n X 1 rfl rfl dX8_move_25 ?_
      rcases is_0_3 h_1 with rfl | rfl | rfl | rfl
      · refine j_iald X (by decide) rfl (by unfold vp_in; decide) dX8_move_26 ?_
        refine j_eqi (v := 0) hz.2.2.2.2.2.2.2.2.2.2.2.2.2.2.1 ?_
        refine j_if_eq X 39 (by decide) dX8_move_27 (fun c_5 => ?_) (fun c_5 => False.elim (by revert c_5; decide))
        refine j_aload_n X 0 rfl rfl dX8_move_39 ?_
        refine j_ldc X (v := (-1000000002)) aw_565 dX8_move_40 ?_
        refine j_callVI X (nn := 1) (As := [.int (-1000000002)]) (st := []) (ci := 8) (by decide) (wE_8 _ rfl) rfl aw_144 aw_145 (c_X8_errs l D y ad M (-1000000002) 2 (by decide) (by decide)) aw_143 aw_146 aw_5 (by decide +kernel) ⟨by decide, by decide⟩ rfl (Nat.le_of_ble_eq_true rfl) ⟨by decide, by decide⟩ dX8_move_42 ?_
        rintro r_ M1_ ⟨rfl, rfl⟩
        exact j_iret X hr hlocks dX8_move_45 (by unfold sp_move; (repeat' split) <;> first | rfl | omega | (exfalso; omega))
      · refine j_iald X (by decide) rfl (by unfold vp_in; decide) dX8_move_26 ?_
        refine j_eqi (v := 0) hz.2.2.2.2.2.2.2.2.2.2.2.2.2.2.2.1 ?_
        refine j_if_eq X 39 (by decide) dX8_move_27 (fun c_6 => ?_) (fun c_6 => False.elim (by revert c_6; decide))
        refine j_aload_n X 0 rfl rfl dX8_move_39 ?_
        refine j_ldc X (v := (-1000000002)) aw_565 dX8_move_40 ?_
        refine j_callVI X (nn := 1) (As := [.int (-1000000002)]) (st := []) (ci := 8) (by decide) (wE_8 _ rfl) rfl aw_144 aw_145 (c_X8_errs l D y ad M (-1000000002) 2 (by decide) (by decide)) aw_143 aw_146 aw_5 (by decide +kernel) ⟨by decide, by decide⟩ rfl (Nat.le_of_ble_eq_true rfl) ⟨by decide, by decide⟩ dX8_move_42 ?_
        rintro r_ M1_ ⟨rfl, rfl⟩
        exact j_iret X hr hlocks dX8_move_45 (by unfold sp_move; (repeat' split) <;> first | rfl | omega | (exfalso; omega))
      · refine j_iald X (by decide) rfl (by unfold vp_in; decide) dX8_move_26 ?_
        refine j_eqi (v := 0) hz.2.2.2.2.2.2.2.2.2.2.2.2.2.2.2.2.1 ?_
        refine j_if_eq X 39 (by decide) dX8_move_27 (fun c_7 => ?_) (fun c_7 => False.elim (by revert c_7; decide))
        refine j_aload_n X 0 rfl rfl dX8_move_39 ?_
        refine j_ldc X (v := (-1000000002)) aw_565 dX8_move_40 ?_
        refine j_callVI X (nn := 1) (As := [.int (-1000000002)]) (st := []) (ci := 8) (by decide) (wE_8 _ rfl) rfl aw_144 aw_145 (c_X8_errs l D y ad M (-1000000002) 2 (by decide) (by decide)) aw_143 aw_146 aw_5 (by decide +kernel) ⟨by decide, by decide⟩ rfl (Nat.le_of_ble_eq_true rfl) ⟨by decide, by decide⟩ dX8_move_42 ?_
        rintro r_ M1_ ⟨rfl, rfl⟩
        exact j_iret X hr hlocks dX8_move_45 (by unfold sp_move; (repeat' split) <;> first | rfl | omega | (exfalso; omega))
      · refine j_iald X (by decide) rfl (by unfold vp_in; decide) dX8_move_26 ?_
        refine j_eqi (v := 0) hz.2.2.2.2.2.2.2.2.2.2.2.2.2.2.2.2.2.1 ?_
        refine j_if_eq X 39 (by decide) dX8_move_27 (fun c_8 => ?_) (fun c_8 => False.elim (by revert c_8; decide))
        refine j_aload_n X 0 rfl rfl dX8_move_39 ?_
        refine j_ldc X (v := (-1000000002)) aw_565 dX8_move_40 ?_
        refine j_callVI X (nn := 1) (As := [.int (-1000000002)]) (st := []) (ci := 8) (by decide) (wE_8 _ rfl) rfl aw_144 aw_145 (c_X8_errs l D y ad M (-1000000002) 2 (by decide) (by decide)) aw_143 aw_146 aw_5 (by decide +kernel) ⟨by decide, by decide⟩ rfl (Nat.le_of_ble_eq_true rfl) ⟨by decide, by decide⟩ dX8_move_42 ?_
        rintro r_ M1_ ⟨rfl, rfl⟩
        exact j_iret X hr hlocks dX8_move_45 (by unfold sp_move; (repeat' split) <;> first | rfl | omega | (exfalso; omega))
    · refine j_if_ne X 21 (by decide) dX8_move_11 (fun c_9 => False.elim (by revert c_9; decide)) (fun c_9 => ?_)
      refine j_aload_n X 0 rfl rfl dX8_move_14 ?_
      refine j_ldc X (v := (-1000000001)) aw_132 dX8_move_15 ?_
      refine j_callVI X (nn := 1) (As := [.int (-1000000001)]) (st := []) (ci := 8) (by decide) (wE_8 _ rfl) rfl aw_144 aw_145 (c_X8_errs l D y ad M (-1000000001) 1 (by decide) (by decide)) aw_143 aw_146 aw_5 (by decide +kernel) ⟨by decide, by decide⟩ rfl (Nat.le_of_ble_eq_true rfl) ⟨by decide, by decide⟩ dX8_move_17 ?_
      rintro r_ M1_ ⟨rfl, rfl⟩
      exact j_iret X hr hlocks dX8_move_20 (by unfold sp_move; (repeat' split) <;> first | rfl | omega | (exfalso; omega))
  · refine j_if_eq X 14 (by decide) dX8_move_4 (fun c_10 => ?_) (fun c_10 => False.elim (by revert c_10; decide))
    refine j_aload_n X 0 rfl rfl dX8_move_14 ?_
    refine j_ldc X (v := (-1000000001)) aw_132 dX8_move_15 ?_
    refine j_callVI X (nn := 1) (As := [.int (-1000000001)]) (st := []) (ci := 8) (by decide) (wE_8 _ rfl) rfl aw_144 aw_145 (c_X8_errs l D y ad M (-1000000001) 1 (by decide) (by decide)) aw_143 aw_146 aw_5 (by decide +kernel) ⟨by decide, by decide⟩ rfl (Nat.le_of_ble_eq_true rfl) ⟨by decide, by decide⟩ dX8_move_17 ?_
    rintro r_ M1_ ⟨rfl, rfl⟩
    exact j_iret X hr hlocks dX8_move_20 (by unfold sp_move; (repeat' split) <;> first | rfl | omega | (exfalso; omega))
set_option maxRecDepth 100000 in
set_option maxHeartbeats 4000000 in
theorem c0_X8_sheet (l : Launch) (D : va_G) (y : wY) (ad : Nat → Nat) (M : Mem) (hz : Z1 M) (sh bits n : Int32) : MI l D y ad yX8_sheet (Cond.code yX8_sheet cX8_sheet 5 (some .int)) 6 M [.ref (ad 79), .int sh, .int bits, .int n] (fun r _ => sp_sheet sh bits n = r) := by
  refine MI_of (by decide) (Nat.le_of_ble_eq_true rfl) ?_
  intro p e s m args below meth c X hr hlocks
  refine j_lv (lv1 := [(0, .ref (ad 79)), (1, .int sh), (2, .int bits), (3, .int n)]) [0, 1, 2, 3] rfl ?_
  refine j_iload_n X 1 rfl rfl dX8_sheet_0 ?_
  refine j_callSI X (nn := 1) (As := [.int sh]) (st := []) aw_653 (c_X8_isSheet l D y ad M sh) aw_652 aw_654 aw_5 (by decide +kernel) ⟨by decide, by decide⟩ rfl (Nat.le_of_ble_eq_true rfl) ⟨by decide, by decide⟩ dX8_sheet_1 ?_
  rintro r_ M1_ (⟨rfl, rfl, h_1⟩ | ⟨rfl, rfl, h_1⟩)
  · refine j_if_eq X 29 (by decide) dX8_sheet_4 (fun c_2 => False.elim (by revert c_2; decide)) (fun c_2 => ?_)
    refine j_iload_n X 2 rfl rfl dX8_sheet_7 ?_
    refine j_if_eq X 36 (by decide) dX8_sheet_8 (fun c_3 => ?_) (fun c_3 => ?_)
    · have qc_3 := ti_eq (n := 0) (by decide) c_3
      refine j_iload_n X 2 rfl rfl dX8_sheet_36 ?_
      refine j_if_eq X 51 (by decide) dX8_sheet_37 (fun c_4 => ?_) (fun c_4 => False.elim (by rw [c_3] at c_4; revert c_4; decide))
      refine j_iload_n X 2 rfl rfl dX8_sheet_51 ?_
      refine j_if_eq X 68 (by decide) dX8_sheet_52 (fun c_5 => ?_) (fun c_5 => False.elim (by rw [c_3] at c_5; revert c_5; decide))
      refine j_aload_n X 0 rfl rfl dX8_sheet_68 ?_
      refine j_get X (by decide) (wE_8 _ rfl) rfl awF8 15 (by decide) aw_99 rfl (v := .ref (ad 87)) rfl dX8_sheet_69 ?_
      refine j_iload_n X 1 rfl rfl dX8_sheet_72 ?_
      refine j_iload_n X 2 rfl rfl dX8_sheet_73 ?_
      rcases is_0_3 h_1 with rfl | rfl | rfl | rfl
      · refine j_iast X (by decide) rfl (by unfold vp_in; decide) dX8_sheet_74 ?_
        refine j_eqM (M1 := (up M 87 0 bits)) rfl ?_
        refine j_aload_n X 0 rfl rfl dX8_sheet_75 ?_
        refine j_get X (by decide) (wE_8 _ rfl) rfl awF8 16 (by decide) aw_100 rfl (v := .ref (ad 88)) rfl dX8_sheet_76 ?_
        refine j_iload_n X 1 rfl rfl dX8_sheet_79 ?_
        refine j_iload_n X 2 rfl rfl dX8_sheet_80 ?_
        refine j_if_ne X 88 (by decide) dX8_sheet_81 (fun c_6 => False.elim (by rw [c_3] at c_6; revert c_6; decide)) (fun c_6 => ?_)
        refine j_iconst X (v := 0) (by decide) dX8_sheet_84 ?_
        refine j_goto X 89 (by decide) dX8_sheet_85 ?_
        refine j_iast X (by decide) rfl (by unfold vp_in; decide) dX8_sheet_89 ?_
        refine j_eqM (M1 := (up (up M 87 0 bits) 88 0 0)) rfl ?_
        refine j_iconst X (v := 0) (by decide) dX8_sheet_90 ?_
        refine j_istore X [(4, .int 0), (0, .ref (ad 79)), (1, .int 0), (2, .int bits), (3, .int n)] (by decide) rfl dX8_sheet_91 ?_
        have loop7 : ∀ (n_7 i_7 : Nat) (M7 : Mem), i_7 ≤ 40 → 40 - i_7 < n_7 → sm (fun b _ => b == 89) (up (up M 87 0 bits) 88 0 0) M7 → J p l e (rmN 6) s m args below meth c 0 0 (QI (fun r _ => sp_sheet 0 bits n = r) D y ad M s args below) D y ad (va_A (PL y ad M) s.heap.size) 5 M7 93 [(4, .int (nI i_7)), (0, .ref (ad 79)), (1, .int 0), (2, .int bits), (3, .int n)] [] := by
          intro n_7
          induction n_7 with
          | zero => intro i_7 M7 h1 h2; exact absurd h2 (by omega)
          | succ n_7 ih7 =>
            intro i_7 M7 h1i_7 h2i_7 hs7
            refine j_iload X 0 rfl dX8_sheet_93 ?_
            refine j_bipush X (v := 40) (by decide) dX8_sheet_95 ?_
            refine j_icmp_ge X 119 (by decide) dX8_sheet_97 (fun c_8 => ?_) (fun c_8 => ?_)
            · have c_8 := (nI_leI (by omega) (by omega)).mp (show nI (40) ≤ nI i_7 from c_8)
              refine j_iconst X (v := 1) (by decide) dX8_sheet_119 ?_
              exact j_iret X hr hlocks dX8_sheet_120 (by unfold sp_sheet; (repeat' split) <;> first | rfl | omega | (exfalso; omega))
            · have c_8 : i_7 < 40 := by
                rcases Nat.lt_or_ge i_7 (40) with g | g
                · exact g
                · exact absurd (show nI (40) ≤ nI i_7 from nI_le g (by omega)) c_8
              refine j_aload_n X 1 rfl rfl dX8_sheet_100 ?_
              refine j_get X (by decide) (wE_8 _ rfl) rfl awF8 17 (by decide) aw_101 rfl (v := .ref (ad 89)) rfl dX8_sheet_101 ?_
              refine j_bipush X (v := 40) (by decide) dX8_sheet_104 ?_
              refine j_iload_n X 2 rfl rfl dX8_sheet_106 ?_
              refine j_imul X dX8_sheet_107 ?_
              refine j_eqi (v := 0) (by decide) ?_
              refine j_iload X 0 rfl dX8_sheet_108 ?_
              refine j_iadd X dX8_sheet_110 ?_
              refine j_eqi (v := (nI i_7)) (Int32.zero_add _) ?_
              refine j_iconst X (v := 0) (by decide) dX8_sheet_111 ?_
              refine j_iast X (by decide) rfl (show vp_in (nI i_7) 160 from vp_in_nI (by omega) (by decide)) dX8_sheet_112 ?_
              refine j_eqM (M1 := (up M7 89 i_7 0)) (by rw [nI_clamp (by omega)]) ?_
              refine j_iinc X (v := (nI (i_7 + 1))) 0 [(4, .int (nI (i_7 + 1))), (0, .ref (ad 79)), (1, .int 0), (2, .int bits), (3, .int n)] rfl (show nI i_7 + Int32.ofInt 1 = _ from nI_1 i_7) (by decide) rfl dX8_sheet_113 ?_
              refine j_goto X 93 (by decide) dX8_sheet_116 ?_
              refine j_lv (lv1 := [(4, .int (nI (i_7 + 1))), (0, .ref (ad 79)), (1, .int 0), (2, .int bits), (3, .int n)]) [0, 1, 2, 3, 4] rfl ?_
              exact ih7 (i_7 + 1) _ (by omega) (by omega) (sm_up hs7 rfl)
        refine j_lv (lv1 := [(4, .int (nI 0)), (0, .ref (ad 79)), (1, .int 0), (2, .int bits), (3, .int n)]) [0, 1, 2, 3, 4] rfl ?_
        exact loop7 (40 + 1) 0 _ (by omega) (by omega) sm_rf
      · refine j_iast X (by decide) rfl (by unfold vp_in; decide) dX8_sheet_74 ?_
        refine j_eqM (M1 := (up M 87 1 bits)) rfl ?_
        refine j_aload_n X 0 rfl rfl dX8_sheet_75 ?_
        refine j_get X (by decide) (wE_8 _ rfl) rfl awF8 16 (by decide) aw_100 rfl (v := .ref (ad 88)) rfl dX8_sheet_76 ?_
        refine j_iload_n X 1 rfl rfl dX8_sheet_79 ?_
        refine j_iload_n X 2 rfl rfl dX8_sheet_80 ?_
        refine j_if_ne X 88 (by decide) dX8_sheet_81 (fun c_9 => False.elim (by rw [c_3] at c_9; revert c_9; decide)) (fun c_9 => ?_)
        refine j_iconst X (v := 0) (by decide) dX8_sheet_84 ?_
        refine j_goto X 89 (by decide) dX8_sheet_85 ?_
        refine j_iast X (by decide) rfl (by unfold vp_in; decide) dX8_sheet_89 ?_
        refine j_eqM (M1 := (up (up M 87 1 bits) 88 1 0)) rfl ?_
        refine j_iconst X (v := 0) (by decide) dX8_sheet_90 ?_
        refine j_istore X [(4, .int 0), (0, .ref (ad 79)), (1, .int 1), (2, .int bits), (3, .int n)] (by decide) rfl dX8_sheet_91 ?_
        have loop10 : ∀ (n_10 i_10 : Nat) (M10 : Mem), i_10 ≤ 40 → 40 - i_10 < n_10 → sm (fun b _ => b == 89) (up (up M 87 1 bits) 88 1 0) M10 → J p l e (rmN 6) s m args below meth c 0 0 (QI (fun r _ => sp_sheet 1 bits n = r) D y ad M s args below) D y ad (va_A (PL y ad M) s.heap.size) 5 M10 93 [(4, .int (nI i_10)), (0, .ref (ad 79)), (1, .int 1), (2, .int bits), (3, .int n)] [] := by
          intro n_10
          induction n_10 with
          | zero => intro i_10 M10 h1 h2; exact absurd h2 (by omega)
          | succ n_10 ih10 =>
            intro i_10 M10 h1i_10 h2i_10 hs10
            refine j_iload X 0 rfl dX8_sheet_93 ?_
            refine j_bipush X (v := 40) (by decide) dX8_sheet_95 ?_
            refine j_icmp_ge X 119 (by decide) dX8_sheet_97 (fun c_11 => ?_) (fun c_11 => ?_)
            · have c_11 := (nI_leI (by omega) (by omega)).mp (show nI (40) ≤ nI i_10 from c_11)
              refine j_iconst X (v := 1) (by decide) dX8_sheet_119 ?_
              exact j_iret X hr hlocks dX8_sheet_120 (by unfold sp_sheet; (repeat' split) <;> first | rfl | omega | (exfalso; omega))
            · have c_11 : i_10 < 40 := by
                rcases Nat.lt_or_ge i_10 (40) with g | g
                · exact g
                · exact absurd (show nI (40) ≤ nI i_10 from nI_le g (by omega)) c_11
              refine j_aload_n X 1 rfl rfl dX8_sheet_100 ?_
              refine j_get X (by decide) (wE_8 _ rfl) rfl awF8 17 (by decide) aw_101 rfl (v := .ref (ad 89)) rfl dX8_sheet_101 ?_
              refine j_bipush X (v := 40) (by decide) dX8_sheet_104 ?_
              refine j_iload_n X 2 rfl rfl dX8_sheet_106 ?_
              refine j_imul X dX8_sheet_107 ?_
              refine j_eqi (v := 40) (by decide) ?_
              refine j_iload X 0 rfl dX8_sheet_108 ?_
              refine j_iadd X dX8_sheet_110 ?_
              refine j_iconst X (v := 0) (by decide) dX8_sheet_111 ?_
              refine j_iast X (by decide) rfl (by rw [show (40 : Int32) + nI i_10 = nI (40 + i_10) from nI_add 40 i_10]; exact (show vp_in (nI (40 + i_10)) 160 from vp_in_nI (by omega) (by decide))) dX8_sheet_112 ?_
              refine j_eqM (M1 := (up M10 89 (40 + i_10) 0)) (by rw [show (40 : Int32) + nI i_10 = nI (40 + i_10) from nI_add 40 i_10, nI_clamp (by omega)]) ?_
              refine j_iinc X (v := (nI (i_10 + 1))) 0 [(4, .int (nI (i_10 + 1))), (0, .ref (ad 79)), (1, .int 1), (2, .int bits), (3, .int n)] rfl (show nI i_10 + Int32.ofInt 1 = _ from nI_1 i_10) (by decide) rfl dX8_sheet_113 ?_
              refine j_goto X 93 (by decide) dX8_sheet_116 ?_
              refine j_lv (lv1 := [(4, .int (nI (i_10 + 1))), (0, .ref (ad 79)), (1, .int 1), (2, .int bits), (3, .int n)]) [0, 1, 2, 3, 4] rfl ?_
              exact ih10 (i_10 + 1) _ (by omega) (by omega) (sm_up hs10 rfl)
        refine j_lv (lv1 := [(4, .int (nI 0)), (0, .ref (ad 79)), (1, .int 1), (2, .int bits), (3, .int n)]) [0, 1, 2, 3, 4] rfl ?_
        exact loop10 (40 + 1) 0 _ (by omega) (by omega) sm_rf
      · refine j_iast X (by decide) rfl (by unfold vp_in; decide) dX8_sheet_74 ?_
        refine j_eqM (M1 := (up M 87 2 bits)) rfl ?_
        refine j_aload_n X 0 rfl rfl dX8_sheet_75 ?_
        refine j_get X (by decide) (wE_8 _ rfl) rfl awF8 16 (by decide) aw_100 rfl (v := .ref (ad 88)) rfl dX8_sheet_76 ?_
        refine j_iload_n X 1 rfl rfl dX8_sheet_79 ?_
        refine j_iload_n X 2 rfl rfl dX8_sheet_80 ?_
        refine j_if_ne X 88 (by decide) dX8_sheet_81 (fun c_12 => False.elim (by rw [c_3] at c_12; revert c_12; decide)) (fun c_12 => ?_)
        refine j_iconst X (v := 0) (by decide) dX8_sheet_84 ?_
        refine j_goto X 89 (by decide) dX8_sheet_85 ?_
        refine j_iast X (by decide) rfl (by unfold vp_in; decide) dX8_sheet_89 ?_
        refine j_eqM (M1 := (up (up M 87 2 bits) 88 2 0)) rfl ?_
        refine j_iconst X (v := 0) (by decide) dX8_sheet_90 ?_
        refine j_istore X [(4, .int 0), (0, .ref (ad 79)), (1, .int 2), (2, .int bits), (3, .int n)] (by decide) rfl dX8_sheet_91 ?_
        have loop13 : ∀ (n_13 i_13 : Nat) (M13 : Mem), i_13 ≤ 40 → 40 - i_13 < n_13 → sm (fun b _ => b == 89) (up (up M 87 2 bits) 88 2 0) M13 → J p l e (rmN 6) s m args below meth c 0 0 (QI (fun r _ => sp_sheet 2 bits n = r) D y ad M s args below) D y ad (va_A (PL y ad M) s.heap.size) 5 M13 93 [(4, .int (nI i_13)), (0, .ref (ad 79)), (1, .int 2), (2, .int bits), (3, .int n)] [] := by
          intro n_13
          induction n_13 with
          | zero => intro i_13 M13 h1 h2; exact absurd h2 (by omega)
          | succ n_13 ih13 =>
            intro i_13 M13 h1i_13 h2i_13 hs13
            refine j_iload X 0 rfl dX8_sheet_93 ?_
            refine j_bipush X (v := 40) (by decide) dX8_sheet_95 ?_
            refine j_icmp_ge X 119 (by decide) dX8_sheet_97 (fun c_14 => ?_) (fun c_14 => ?_)
            · have c_14 := (nI_leI (by omega) (by omega)).mp (show nI (40) ≤ nI i_13 from c_14)
              refine j_iconst X (v := 1) (by decide) dX8_sheet_119 ?_
              exact j_iret X hr hlocks dX8_sheet_120 (by unfold sp_sheet; (repeat' split) <;> first | rfl | omega | (exfalso; omega))
            · have c_14 : i_13 < 40 := by
                rcases Nat.lt_or_ge i_13 (40) with g | g
                · exact g
                · exact absurd (show nI (40) ≤ nI i_13 from nI_le g (by omega)) c_14
              refine j_aload_n X 1 rfl rfl dX8_sheet_100 ?_
              refine j_get X (by decide) (wE_8 _ rfl) rfl awF8 17 (by decide) aw_101 rfl (v := .ref (ad 89)) rfl dX8_sheet_101 ?_
              refine j_bipush X (v := 40) (by decide) dX8_sheet_104 ?_
              refine j_iload_n X 2 rfl rfl dX8_sheet_106 ?_
              refine j_imul X dX8_sheet_107 ?_
              refine j_eqi (v := 80) (by decide) ?_
              refine j_iload X 0 rfl dX8_sheet_108 ?_
              refine j_iadd X dX8_sheet_110 ?_
              refine j_iconst X (v := 0) (by decide) dX8_sheet_111 ?_
              refine j_iast X (by decide) rfl (by rw [show (80 : Int32) + nI i_13 = nI (80 + i_13) from nI_add 80 i_13]; exact (show vp_in (nI (80 + i_13)) 160 from vp_in_nI (by omega) (by decide))) dX8_sheet_112 ?_
              refine j_eqM (M1 := (up M13 89 (80 + i_13) 0)) (by rw [show (80 : Int32) + nI i_13 = nI (80 + i_13) from nI_add 80 i_13, nI_clamp (by omega)]) ?_
              refine j_iinc X (v := (nI (i_13 + 1))) 0 [(4, .int (nI (i_13 + 1))), (0, .ref (ad 79)), (1, .int 2), (2, .int bits), (3, .int n)] rfl (show nI i_13 + Int32.ofInt 1 = _ from nI_1 i_13) (by decide) rfl dX8_sheet_113 ?_
              refine j_goto X 93 (by decide) dX8_sheet_116 ?_
              refine j_lv (lv1 := [(4, .int (nI (i_13 + 1))), (0, .ref (ad 79)), (1, .int 2), (2, .int bits), (3, .int n)]) [0, 1, 2, 3, 4] rfl ?_
              exact ih13 (i_13 + 1) _ (by omega) (by omega) (sm_up hs13 rfl)
        refine j_lv (lv1 := [(4, .int (nI 0)), (0, .ref (ad 79)), (1, .int 2), (2, .int bits), (3, .int n)]) [0, 1, 2, 3, 4] rfl ?_
        exact loop13 (40 + 1) 0 _ (by omega) (by omega) sm_rf
      · refine j_iast X (by decide) rfl (by unfold vp_in; decide) dX8_sheet_74 ?_
        refine j_eqM (M1 := (up M 87 3 bits)) rfl ?_
        refine j_aload_n X 0 rfl rfl dX8_sheet_75 ?_
        refine j_get X (by decide) (wE_8 _ rfl) rfl awF8 16 (by decide) aw_100 rfl (v := .ref (ad 88)) rfl dX8_sheet_76 ?_
        refine j_iload_n X 1 rfl rfl dX8_sheet_79 ?_
        refine j_iload_n X 2 rfl rfl dX8_sheet_80 ?_
        refine j_if_ne X 88 (by decide) dX8_sheet_81 (fun c_15 => False.elim (by rw [c_3] at c_15; revert c_15; decide)) (fun c_15 => ?_)
        refine j_iconst X (v := 0) (by decide) dX8_sheet_84 ?_
        refine j_goto X 89 (by decide) dX8_sheet_85 ?_
        refine j_iast X (by decide) rfl (by unfold vp_in; decide) dX8_sheet_89 ?_
        refine j_eqM (M1 := (up (up M 87 3 bits) 88 3 0)) rfl ?_
        refine j_iconst X (v := 0) (by decide) dX8_sheet_90 ?_
        refine j_istore X [(4, .int 0), (0, .ref (ad 79)), (1, .int 3), (2, .int bits), (3, .int n)] (by decide) rfl dX8_sheet_91 ?_
        have loop16 : ∀ (n_16 i_16 : Nat) (M16 : Mem), i_16 ≤ 40 → 40 - i_16 < n_16 → sm (fun b _ => b == 89) (up (up M 87 3 bits) 88 3 0) M16 → J p l e (rmN 6) s m args below meth c 0 0 (QI (fun r _ => sp_sheet 3 bits n = r) D y ad M s args below) D y ad (va_A (PL y ad M) s.heap.size) 5 M16 93 [(4, .int (nI i_16)), (0, .ref (ad 79)), (1, .int 3), (2, .int bits), (3, .int n)] [] := by
          intro n_16
          induction n_16 with
          | zero => intro i_16 M16 h1 h2; exact absurd h2 (by omega)
          | succ n_16 ih16 =>
            intro i_16 M16 h1i_16 h2i_16 hs16
            refine j_iload X 0 rfl dX8_sheet_93 ?_
            refine j_bipush X (v := 40) (by decide) dX8_sheet_95 ?_
            refine j_icmp_ge X 119 (by decide) dX8_sheet_97 (fun c_17 => ?_) (fun c_17 => ?_)
            · have c_17 := (nI_leI (by omega) (by omega)).mp (show nI (40) ≤ nI i_16 from c_17)
              refine j_iconst X (v := 1) (by decide) dX8_sheet_119 ?_
              exact j_iret X hr hlocks dX8_sheet_120 (by unfold sp_sheet; (repeat' split) <;> first | rfl | omega | (exfalso; omega))
            · have c_17 : i_16 < 40 := by
                rcases Nat.lt_or_ge i_16 (40) with g | g
                · exact g
                · exact absurd (show nI (40) ≤ nI i_16 from nI_le g (by omega)) c_17
              refine j_aload_n X 1 rfl rfl dX8_sheet_100 ?_
              refine j_get X (by decide) (wE_8 _ rfl) rfl awF8 17 (by decide) aw_101 rfl (v := .ref (ad 89)) rfl dX8_sheet_101 ?_
              refine j_bipush X (v := 40) (by decide) dX8_sheet_104 ?_
              refine j_iload_n X 2 rfl rfl dX8_sheet_106 ?_
              refine j_imul X dX8_sheet_107 ?_
              refine j_eqi (v := 120) (by decide) ?_
              refine j_iload X 0 rfl dX8_sheet_108 ?_
              refine j_iadd X dX8_sheet_110 ?_
              refine j_iconst X (v := 0) (by decide) dX8_sheet_111 ?_
              refine j_iast X (by decide) rfl (by rw [show (120 : Int32) + nI i_16 = nI (120 + i_16) from nI_add 120 i_16]; exact (show vp_in (nI (120 + i_16)) 160 from vp_in_nI (by omega) (by decide))) dX8_sheet_112 ?_
              refine j_eqM (M1 := (up M16 89 (120 + i_16) 0)) (by rw [show (120 : Int32) + nI i_16 = nI (120 + i_16) from nI_add 120 i_16, nI_clamp (by omega)]) ?_
              refine j_iinc X (v := (nI (i_16 + 1))) 0 [(4, .int (nI (i_16 + 1))), (0, .ref (ad 79)), (1, .int 3), (2, .int bits), (3, .int n)] rfl (show nI i_16 + Int32.ofInt 1 = _ from nI_1 i_16) (by decide) rfl dX8_sheet_113 ?_
              refine j_goto X 93 (by decide) dX8_sheet_116 ?_
              refine j_lv (lv1 := [(4, .int (nI (i_16 + 1))), (0, .ref (ad 79)), (1, .int 3), (2, .int bits), (3, .int n)]) [0, 1, 2, 3, 4] rfl ?_
              exact ih16 (i_16 + 1) _ (by omega) (by omega) (sm_up hs16 rfl)
        refine j_lv (lv1 := [(4, .int (nI 0)), (0, .ref (ad 79)), (1, .int 3), (2, .int bits), (3, .int n)]) [0, 1, 2, 3, 4] rfl ?_
        exact loop16 (40 + 1) 0 _ (by omega) (by omega) sm_rf
    · have qc_3 := ti_ne (n := 0) (by decide) c_3
      refine j_iload_n X 2 rfl rfl dX8_sheet_11 ?_
      refine j_bipush X (v := 8) (by decide) dX8_sheet_12 ?_
      refine j_icmp_eq X 36 (by decide) dX8_sheet_14 (fun c_18 => ?_) (fun c_18 => ?_)
      · have qc_18 := ti_eq (n := 8) (by decide) c_18
        refine j_iload_n X 2 rfl rfl dX8_sheet_36 ?_
        refine j_if_eq X 51 (by decide) dX8_sheet_37 (fun c_19 => False.elim (by rw [c_18] at c_19; revert c_19; decide)) (fun c_19 => ?_)
        refine j_iload_n X 3 rfl rfl dX8_sheet_40 ?_
        refine j_if_ge X 51 (by decide) dX8_sheet_41 (fun c_20 => ?_) (fun c_20 => ?_)
        · have qc_20 := ti_le (a := 0) (b := n.toInt) (by decide) rfl c_20
          refine j_iload_n X 2 rfl rfl dX8_sheet_51 ?_
          refine j_if_eq X 68 (by decide) dX8_sheet_52 (fun c_21 => False.elim (by rw [c_18] at c_21; revert c_21; decide)) (fun c_21 => ?_)
          refine j_iload_n X 3 rfl rfl dX8_sheet_55 ?_
          refine j_bipush X (v := 40) (by decide) dX8_sheet_56 ?_
          refine j_icmp_le X 68 (by decide) dX8_sheet_58 (fun c_22 => ?_) (fun c_22 => ?_)
          · have qc_22 := ti_le (a := n.toInt) (b := 40) rfl (by decide) c_22
            refine j_aload_n X 0 rfl rfl dX8_sheet_68 ?_
            refine j_get X (by decide) (wE_8 _ rfl) rfl awF8 15 (by decide) aw_99 rfl (v := .ref (ad 87)) rfl dX8_sheet_69 ?_
            refine j_iload_n X 1 rfl rfl dX8_sheet_72 ?_
            refine j_iload_n X 2 rfl rfl dX8_sheet_73 ?_
            rcases is_0_3 h_1 with rfl | rfl | rfl | rfl
            · refine j_iast X (by decide) rfl (by unfold vp_in; decide) dX8_sheet_74 ?_
              refine j_eqM (M1 := (up M 87 0 bits)) rfl ?_
              refine j_aload_n X 0 rfl rfl dX8_sheet_75 ?_
              refine j_get X (by decide) (wE_8 _ rfl) rfl awF8 16 (by decide) aw_100 rfl (v := .ref (ad 88)) rfl dX8_sheet_76 ?_
              refine j_iload_n X 1 rfl rfl dX8_sheet_79 ?_
              refine j_iload_n X 2 rfl rfl dX8_sheet_80 ?_
              refine j_if_ne X 88 (by decide) dX8_sheet_81 (fun c_23 => ?_) (fun c_23 => False.elim (by rw [c_18] at c_23; revert c_23; decide))
              refine j_iload_n X 3 rfl rfl dX8_sheet_88 ?_
              refine j_iast X (by decide) rfl (by unfold vp_in; decide) dX8_sheet_89 ?_
              refine j_eqM (M1 := (up (up M 87 0 bits) 88 0 n)) rfl ?_
              refine j_iconst X (v := 0) (by decide) dX8_sheet_90 ?_
              refine j_istore X [(4, .int 0), (0, .ref (ad 79)), (1, .int 0), (2, .int bits), (3, .int n)] (by decide) rfl dX8_sheet_91 ?_
              have loop24 : ∀ (n_24 i_24 : Nat) (M24 : Mem), i_24 ≤ 40 → 40 - i_24 < n_24 → sm (fun b _ => b == 89) (up (up M 87 0 bits) 88 0 n) M24 → J p l e (rmN 6) s m args below meth c 0 0 (QI (fun r _ => sp_sheet 0 bits n = r) D y ad M s args below) D y ad (va_A (PL y ad M) s.heap.size) 5 M24 93 [(4, .int (nI i_24)), (0, .ref (ad 79)), (1, .int 0), (2, .int bits), (3, .int n)] [] := by
                intro n_24
                induction n_24 with
                | zero => intro i_24 M24 h1 h2; exact absurd h2 (by omega)
                | succ n_24 ih24 =>
                  intro i_24 M24 h1i_24 h2i_24 hs24
                  refine j_iload X 0 rfl dX8_sheet_93 ?_
                  refine j_bipush X (v := 40) (by decide) dX8_sheet_95 ?_
                  refine j_icmp_ge X 119 (by decide) dX8_sheet_97 (fun c_25 => ?_) (fun c_25 => ?_)
                  · have c_25 := (nI_leI (by omega) (by omega)).mp (show nI (40) ≤ nI i_24 from c_25)
                    refine j_iconst X (v := 1) (by decide) dX8_sheet_119 ?_
                    exact j_iret X hr hlocks dX8_sheet_120 (by unfold sp_sheet; (repeat' split) <;> first | rfl | omega | (exfalso; omega))
                  · have c_25 : i_24 < 40 := by
                      rcases Nat.lt_or_ge i_24 (40) with g | g
                      · exact g
                      · exact absurd (show nI (40) ≤ nI i_24 from nI_le g (by omega)) c_25
                    refine j_aload_n X 1 rfl rfl dX8_sheet_100 ?_
                    refine j_get X (by decide) (wE_8 _ rfl) rfl awF8 17 (by decide) aw_101 rfl (v := .ref (ad 89)) rfl dX8_sheet_101 ?_
                    refine j_bipush X (v := 40) (by decide) dX8_sheet_104 ?_
                    refine j_iload_n X 2 rfl rfl dX8_sheet_106 ?_
                    refine j_imul X dX8_sheet_107 ?_
                    refine j_eqi (v := 0) (by decide) ?_
                    refine j_iload X 0 rfl dX8_sheet_108 ?_
                    refine j_iadd X dX8_sheet_110 ?_
                    refine j_eqi (v := (nI i_24)) (Int32.zero_add _) ?_
                    refine j_iconst X (v := 0) (by decide) dX8_sheet_111 ?_
                    refine j_iast X (by decide) rfl (show vp_in (nI i_24) 160 from vp_in_nI (by omega) (by decide)) dX8_sheet_112 ?_
                    refine j_eqM (M1 := (up M24 89 i_24 0)) (by rw [nI_clamp (by omega)]) ?_
                    refine j_iinc X (v := (nI (i_24 + 1))) 0 [(4, .int (nI (i_24 + 1))), (0, .ref (ad 79)), (1, .int 0), (2, .int bits), (3, .int n)] rfl (show nI i_24 + Int32.ofInt 1 = _ from nI_1 i_24) (by decide) rfl dX8_sheet_113 ?_
                    refine j_goto X 93 (by decide) dX8_sheet_116 ?_
                    refine j_lv (lv1 := [(4, .int (nI (i_24 + 1))), (0, .ref (ad 79)), (1, .int 0), (2, .int bits), (3, .int n)]) [0, 1, 2, 3, 4] rfl ?_
                    exact ih24 (i_24 + 1) _ (by omega) (by omega) (sm_up hs24 rfl)
              refine j_lv (lv1 := [(4, .int (nI 0)), (0, .ref (ad 79)), (1, .int 0), (2, .int bits), (3, .int n)]) [0, 1, 2, 3, 4] rfl ?_
              exact loop24 (40 + 1) 0 _ (by omega) (by omega) sm_rf
            · refine j_iast X (by decide) rfl (by unfold vp_in; decide) dX8_sheet_74 ?_
              refine j_eqM (M1 := (up M 87 1 bits)) rfl ?_
              refine j_aload_n X 0 rfl rfl dX8_sheet_75 ?_
              refine j_get X (by decide) (wE_8 _ rfl) rfl awF8 16 (by decide) aw_100 rfl (v := .ref (ad 88)) rfl dX8_sheet_76 ?_
              refine j_iload_n X 1 rfl rfl dX8_sheet_79 ?_
              refine j_iload_n X 2 rfl rfl dX8_sheet_80 ?_
              refine j_if_ne X 88 (by decide) dX8_sheet_81 (fun c_26 => ?_) (fun c_26 => False.elim (by rw [c_18] at c_26; revert c_26; decide))
              refine j_iload_n X 3 rfl rfl dX8_sheet_88 ?_
              refine j_iast X (by decide) rfl (by unfold vp_in; decide) dX8_sheet_89 ?_
              refine j_eqM (M1 := (up (up M 87 1 bits) 88 1 n)) rfl ?_
              refine j_iconst X (v := 0) (by decide) dX8_sheet_90 ?_
              refine j_istore X [(4, .int 0), (0, .ref (ad 79)), (1, .int 1), (2, .int bits), (3, .int n)] (by decide) rfl dX8_sheet_91 ?_
              have loop27 : ∀ (n_27 i_27 : Nat) (M27 : Mem), i_27 ≤ 40 → 40 - i_27 < n_27 → sm (fun b _ => b == 89) (up (up M 87 1 bits) 88 1 n) M27 → J p l e (rmN 6) s m args below meth c 0 0 (QI (fun r _ => sp_sheet 1 bits n = r) D y ad M s args below) D y ad (va_A (PL y ad M) s.heap.size) 5 M27 93 [(4, .int (nI i_27)), (0, .ref (ad 79)), (1, .int 1), (2, .int bits), (3, .int n)] [] := by
                intro n_27
                induction n_27 with
                | zero => intro i_27 M27 h1 h2; exact absurd h2 (by omega)
                | succ n_27 ih27 =>
                  intro i_27 M27 h1i_27 h2i_27 hs27
                  refine j_iload X 0 rfl dX8_sheet_93 ?_
                  refine j_bipush X (v := 40) (by decide) dX8_sheet_95 ?_
                  refine j_icmp_ge X 119 (by decide) dX8_sheet_97 (fun c_28 => ?_) (fun c_28 => ?_)
                  · have c_28 := (nI_leI (by omega) (by omega)).mp (show nI (40) ≤ nI i_27 from c_28)
                    refine j_iconst X (v := 1) (by decide) dX8_sheet_119 ?_
                    exact j_iret X hr hlocks dX8_sheet_120 (by unfold sp_sheet; (repeat' split) <;> first | rfl | omega | (exfalso; omega))
                  · have c_28 : i_27 < 40 := by
                      rcases Nat.lt_or_ge i_27 (40) with g | g
                      · exact g
                      · exact absurd (show nI (40) ≤ nI i_27 from nI_le g (by omega)) c_28
                    refine j_aload_n X 1 rfl rfl dX8_sheet_100 ?_
                    refine j_get X (by decide) (wE_8 _ rfl) rfl awF8 17 (by decide) aw_101 rfl (v := .ref (ad 89)) rfl dX8_sheet_101 ?_
                    refine j_bipush X (v := 40) (by decide) dX8_sheet_104 ?_
                    refine j_iload_n X 2 rfl rfl dX8_sheet_106 ?_
                    refine j_imul X dX8_sheet_107 ?_
                    refine j_eqi (v := 40) (by decide) ?_
                    refine j_iload X 0 rfl dX8_sheet_108 ?_
                    refine j_iadd X dX8_sheet_110 ?_
                    refine j_iconst X (v := 0) (by decide) dX8_sheet_111 ?_
                    refine j_iast X (by decide) rfl (by rw [show (40 : Int32) + nI i_27 = nI (40 + i_27) from nI_add 40 i_27]; exact (show vp_in (nI (40 + i_27)) 160 from vp_in_nI (by omega) (by decide))) dX8_sheet_112 ?_
                    refine j_eqM (M1 := (up M27 89 (40 + i_27) 0)) (by rw [show (40 : Int32) + nI i_27 = nI (40 + i_27) from nI_add 40 i_27, nI_clamp (by omega)]) ?_
                    refine j_iinc X (v := (nI (i_27 + 1))) 0 [(4, .int (nI (i_27 + 1))), (0, .ref (ad 79)), (1, .int 1), (2, .int bits), (3, .int n)] rfl (show nI i_27 + Int32.ofInt 1 = _ from nI_1 i_27) (by decide) rfl dX8_sheet_113 ?_
                    refine j_goto X 93 (by decide) dX8_sheet_116 ?_
                    refine j_lv (lv1 := [(4, .int (nI (i_27 + 1))), (0, .ref (ad 79)), (1, .int 1), (2, .int bits), (3, .int n)]) [0, 1, 2, 3, 4] rfl ?_
                    exact ih27 (i_27 + 1) _ (by omega) (by omega) (sm_up hs27 rfl)
              refine j_lv (lv1 := [(4, .int (nI 0)), (0, .ref (ad 79)), (1, .int 1), (2, .int bits), (3, .int n)]) [0, 1, 2, 3, 4] rfl ?_
              exact loop27 (40 + 1) 0 _ (by omega) (by omega) sm_rf
            · refine j_iast X (by decide) rfl (by unfold vp_in; decide) dX8_sheet_74 ?_
              refine j_eqM (M1 := (up M 87 2 bits)) rfl ?_
              refine j_aload_n X 0 rfl rfl dX8_sheet_75 ?_
              refine j_get X (by decide) (wE_8 _ rfl) rfl awF8 16 (by decide) aw_100 rfl (v := .ref (ad 88)) rfl dX8_sheet_76 ?_
              refine j_iload_n X 1 rfl rfl dX8_sheet_79 ?_
              refine j_iload_n X 2 rfl rfl dX8_sheet_80 ?_
              refine j_if_ne X 88 (by decide) dX8_sheet_81 (fun c_29 => ?_) (fun c_29 => False.elim (by rw [c_18] at c_29; revert c_29; decide))
              refine j_iload_n X 3 rfl rfl dX8_sheet_88 ?_
              refine j_iast X (by decide) rfl (by unfold vp_in; decide) dX8_sheet_89 ?_
              refine j_eqM (M1 := (up (up M 87 2 bits) 88 2 n)) rfl ?_
              refine j_iconst X (v := 0) (by decide) dX8_sheet_90 ?_
              refine j_istore X [(4, .int 0), (0, .ref (ad 79)), (1, .int 2), (2, .int bits), (3, .int n)] (by decide) rfl dX8_sheet_91 ?_
              have loop30 : ∀ (n_30 i_30 : Nat) (M30 : Mem), i_30 ≤ 40 → 40 - i_30 < n_30 → sm (fun b _ => b == 89) (up (up M 87 2 bits) 88 2 n) M30 → J p l e (rmN 6) s m args below meth c 0 0 (QI (fun r _ => sp_sheet 2 bits n = r) D y ad M s args below) D y ad (va_A (PL y ad M) s.heap.size) 5 M30 93 [(4, .int (nI i_30)), (0, .ref (ad 79)), (1, .int 2), (2, .int bits), (3, .int n)] [] := by
                intro n_30
                induction n_30 with
                | zero => intro i_30 M30 h1 h2; exact absurd h2 (by omega)
                | succ n_30 ih30 =>
                  intro i_30 M30 h1i_30 h2i_30 hs30
                  refine j_iload X 0 rfl dX8_sheet_93 ?_
                  refine j_bipush X (v := 40) (by decide) dX8_sheet_95 ?_
                  refine j_icmp_ge X 119 (by decide) dX8_sheet_97 (fun c_31 => ?_) (fun c_31 => ?_)
                  · have c_31 := (nI_leI (by omega) (by omega)).mp (show nI (40) ≤ nI i_30 from c_31)
                    refine j_iconst X (v := 1) (by decide) dX8_sheet_119 ?_
                    exact j_iret X hr hlocks dX8_sheet_120 (by unfold sp_sheet; (repeat' split) <;> first | rfl | omega | (exfalso; omega))
                  · have c_31 : i_30 < 40 := by
                      rcases Nat.lt_or_ge i_30 (40) with g | g
                      · exact g
                      · exact absurd (show nI (40) ≤ nI i_30 from nI_le g (by omega)) c_31
                    refine j_aload_n X 1 rfl rfl dX8_sheet_100 ?_
                    refine j_get X (by decide) (wE_8 _ rfl) rfl awF8 17 (by decide) aw_101 rfl (v := .ref (ad 89)) rfl dX8_sheet_101 ?_
                    refine j_bipush X (v := 40) (by decide) dX8_sheet_104 ?_
                    refine j_iload_n X 2 rfl rfl dX8_sheet_106 ?_
                    refine j_imul X dX8_sheet_107 ?_
                    refine j_eqi (v := 80) (by decide) ?_
                    refine j_iload X 0 rfl dX8_sheet_108 ?_
                    refine j_iadd X dX8_sheet_110 ?_
                    refine j_iconst X (v := 0) (by decide) dX8_sheet_111 ?_
                    refine j_iast X (by decide) rfl (by rw [show (80 : Int32) + nI i_30 = nI (80 + i_30) from nI_add 80 i_30]; exact (show vp_in (nI (80 + i_30)) 160 from vp_in_nI (by omega) (by decide))) dX8_sheet_112 ?_
                    refine j_eqM (M1 := (up M30 89 (80 + i_30) 0)) (by rw [show (80 : Int32) + nI i_30 = nI (80 + i_30) from nI_add 80 i_30, nI_clamp (by omega)]) ?_
                    refine j_iinc X (v := (nI (i_30 + 1))) 0 [(4, .int (nI (i_30 + 1))), (0, .ref (ad 79)), (1, .int 2), (2, .int bits), (3, .int n)] rfl (show nI i_30 + Int32.ofInt 1 = _ from nI_1 i_30) (by decide) rfl dX8_sheet_113 ?_
                    refine j_goto X 93 (by decide) dX8_sheet_116 ?_
                    refine j_lv (lv1 := [(4, .int (nI (i_30 + 1))), (0, .ref (ad 79)), (1, .int 2), (2, .int bits), (3, .int n)]) [0, 1, 2, 3, 4] rfl ?_
                    exact ih30 (i_30 + 1) _ (by omega) (by omega) (sm_up hs30 rfl)
              refine j_lv (lv1 := [(4, .int (nI 0)), (0, .ref (ad 79)), (1, .int 2), (2, .int bits), (3, .int n)]) [0, 1, 2, 3, 4] rfl ?_
              exact loop30 (40 + 1) 0 _ (by omega) (by omega) sm_rf
            · refine j_iast X (by decide) rfl (by unfold vp_in; decide) dX8_sheet_74 ?_
              refine j_eqM (M1 := (up M 87 3 bits)) rfl ?_
              refine j_aload_n X 0 rfl rfl dX8_sheet_75 ?_
              refine j_get X (by decide) (wE_8 _ rfl) rfl awF8 16 (by decide) aw_100 rfl (v := .ref (ad 88)) rfl dX8_sheet_76 ?_
              refine j_iload_n X 1 rfl rfl dX8_sheet_79 ?_
              refine j_iload_n X 2 rfl rfl dX8_sheet_80 ?_
              refine j_if_ne X 88 (by decide) dX8_sheet_81 (fun c_32 => ?_) (fun c_32 => False.elim (by rw [c_18] at c_32; revert c_32; decide))
              refine j_iload_n X 3 rfl rfl dX8_sheet_88 ?_
              refine j_iast X (by decide) rfl (by unfold vp_in; decide) dX8_sheet_89 ?_
              refine j_eqM (M1 := (up (up M 87 3 bits) 88 3 n)) rfl ?_
              refine j_iconst X (v := 0) (by decide) dX8_sheet_90 ?_
              refine j_istore X [(4, .int 0), (0, .ref (ad 79)), (1, .int 3), (2, .int bits), (3, .int n)] (by decide) rfl dX8_sheet_91 ?_
              have loop33 : ∀ (n_33 i_33 : Nat) (M33 : Mem), i_33 ≤ 40 → 40 - i_33 < n_33 → sm (fun b _ => b == 89) (up (up M 87 3 bits) 88 3 n) M33 → J p l e (rmN 6) s m args below meth c 0 0 (QI (fun r _ => sp_sheet 3 bits n = r) D y ad M s args below) D y ad (va_A (PL y ad M) s.heap.size) 5 M33 93 [(4, .int (nI i_33)), (0, .ref (ad 79)), (1, .int 3), (2, .int bits), (3, .int n)] [] := by
                intro n_33
                induction n_33 with
                | zero => intro i_33 M33 h1 h2; exact absurd h2 (by omega)
                | succ n_33 ih33 =>
                  intro i_33 M33 h1i_33 h2i_33 hs33
                  refine j_iload X 0 rfl dX8_sheet_93 ?_
                  refine j_bipush X (v := 40) (by decide) dX8_sheet_95 ?_
                  refine j_icmp_ge X 119 (by decide) dX8_sheet_97 (fun c_34 => ?_) (fun c_34 => ?_)
                  · have c_34 := (nI_leI (by omega) (by omega)).mp (show nI (40) ≤ nI i_33 from c_34)
                    refine j_iconst X (v := 1) (by decide) dX8_sheet_119 ?_
                    exact j_iret X hr hlocks dX8_sheet_120 (by unfold sp_sheet; (repeat' split) <;> first | rfl | omega | (exfalso; omega))
                  · have c_34 : i_33 < 40 := by
                      rcases Nat.lt_or_ge i_33 (40) with g | g
                      · exact g
                      · exact absurd (show nI (40) ≤ nI i_33 from nI_le g (by omega)) c_34
                    refine j_aload_n X 1 rfl rfl dX8_sheet_100 ?_
                    refine j_get X (by decide) (wE_8 _ rfl) rfl awF8 17 (by decide) aw_101 rfl (v := .ref (ad 89)) rfl dX8_sheet_101 ?_
                    refine j_bipush X (v := 40) (by decide) dX8_sheet_104 ?_
                    refine j_iload_n X 2 rfl rfl dX8_sheet_106 ?_
                    refine j_imul X dX8_sheet_107 ?_
                    refine j_eqi (v := 120) (by decide) ?_
                    refine j_iload X 0 rfl dX8_sheet_108 ?_
                    refine j_iadd X dX8_sheet_110 ?_
                    refine j_iconst X (v := 0) (by decide) dX8_sheet_111 ?_
                    refine j_iast X (by decide) rfl (by rw [show (120 : Int32) + nI i_33 = nI (120 + i_33) from nI_add 120 i_33]; exact (show vp_in (nI (120 + i_33)) 160 from vp_in_nI (by omega) (by decide))) dX8_sheet_112 ?_
                    refine j_eqM (M1 := (up M33 89 (120 + i_33) 0)) (by rw [show (120 : Int32) + nI i_33 = nI (120 + i_33) from nI_add 120 i_33, nI_clamp (by omega)]) ?_
                    refine j_iinc X (v := (nI (i_33 + 1))) 0 [(4, .int (nI (i_33 + 1))), (0, .ref (ad 79)), (1, .int 3), (2, .int bits), (3, .int n)] rfl (show nI i_33 + Int32.ofInt 1 = _ from nI_1 i_33) (by decide) rfl dX8_sheet_113 ?_
                    refine j_goto X 93 (by decide) dX8_sheet_116 ?_
                    refine j_lv (lv1 := [(4, .int (nI (i_33 + 1))), (0, .ref (ad 79)), (1, .int 3), (2, .int bits), (3, .int n)]) [0, 1, 2, 3, 4] rfl ?_
                    exact ih33 (i_33 + 1) _ (by omega) (by omega) (sm_up hs33 rfl)
              refine j_lv (lv1 := [(4, .int (nI 0)), (0, .ref (ad 79)), (1, .int 3), (2, .int bits), (3, .int n)]) [0, 1, 2, 3, 4] rfl ?_
              exact loop33 (40 + 1) 0 _ (by omega) (by omega) sm_rf
          · have qc_22 := ti_nle (a := n.toInt) (b := 40) rfl (by decide) c_22
            refine j_aload_n X 0 rfl rfl dX8_sheet_61 ?_
            refine j_ldc X (v := (-1000000001)) aw_132 dX8_sheet_62 ?_
            refine j_callVI X (nn := 1) (As := [.int (-1000000001)]) (st := []) (ci := 8) (by decide) (wE_8 _ rfl) rfl aw_144 aw_145 (c_X8_errs l D y ad M (-1000000001) 1 (by decide) (by decide)) aw_143 aw_146 aw_5 (by decide +kernel) ⟨by decide, by decide⟩ rfl (Nat.le_of_ble_eq_true rfl) ⟨by decide, by decide⟩ dX8_sheet_64 ?_
            rintro r_ M1_ ⟨rfl, rfl⟩
            exact j_iret X hr hlocks dX8_sheet_67 (by unfold sp_sheet; (repeat' split) <;> first | rfl | omega | (exfalso; omega))
        · have qc_20 := ti_nle (a := 0) (b := n.toInt) (by decide) rfl c_20
          refine j_aload_n X 0 rfl rfl dX8_sheet_44 ?_
          refine j_ldc X (v := (-1000000003)) aw_480 dX8_sheet_45 ?_
          refine j_callVI X (nn := 1) (As := [.int (-1000000003)]) (st := []) (ci := 8) (by decide) (wE_8 _ rfl) rfl aw_144 aw_145 (c_X8_errs l D y ad M (-1000000003) 3 (by decide) (by decide)) aw_143 aw_146 aw_5 (by decide +kernel) ⟨by decide, by decide⟩ rfl (Nat.le_of_ble_eq_true rfl) ⟨by decide, by decide⟩ dX8_sheet_47 ?_
          rintro r_ M1_ ⟨rfl, rfl⟩
          exact j_iret X hr hlocks dX8_sheet_50 (by unfold sp_sheet; (repeat' split) <;> first | rfl | omega | (exfalso; omega))
      · have qc_18 := ti_ne (n := 8) (by decide) c_18
        refine j_iload_n X 2 rfl rfl dX8_sheet_17 ?_
        refine j_bipush X (v := 16) (by decide) dX8_sheet_18 ?_
        refine j_icmp_eq X 36 (by decide) dX8_sheet_20 (fun c_35 => ?_) (fun c_35 => ?_)
        · have qc_35 := ti_eq (n := 16) (by decide) c_35
          refine j_iload_n X 2 rfl rfl dX8_sheet_36 ?_
          refine j_if_eq X 51 (by decide) dX8_sheet_37 (fun c_36 => False.elim (by rw [c_35] at c_36; revert c_36; decide)) (fun c_36 => ?_)
          refine j_iload_n X 3 rfl rfl dX8_sheet_40 ?_
          refine j_if_ge X 51 (by decide) dX8_sheet_41 (fun c_37 => ?_) (fun c_37 => ?_)
          · have qc_37 := ti_le (a := 0) (b := n.toInt) (by decide) rfl c_37
            refine j_iload_n X 2 rfl rfl dX8_sheet_51 ?_
            refine j_if_eq X 68 (by decide) dX8_sheet_52 (fun c_38 => False.elim (by rw [c_35] at c_38; revert c_38; decide)) (fun c_38 => ?_)
            refine j_iload_n X 3 rfl rfl dX8_sheet_55 ?_
            refine j_bipush X (v := 40) (by decide) dX8_sheet_56 ?_
            refine j_icmp_le X 68 (by decide) dX8_sheet_58 (fun c_39 => ?_) (fun c_39 => ?_)
            · have qc_39 := ti_le (a := n.toInt) (b := 40) rfl (by decide) c_39
              refine j_aload_n X 0 rfl rfl dX8_sheet_68 ?_
              refine j_get X (by decide) (wE_8 _ rfl) rfl awF8 15 (by decide) aw_99 rfl (v := .ref (ad 87)) rfl dX8_sheet_69 ?_
              refine j_iload_n X 1 rfl rfl dX8_sheet_72 ?_
              refine j_iload_n X 2 rfl rfl dX8_sheet_73 ?_
              rcases is_0_3 h_1 with rfl | rfl | rfl | rfl
              · refine j_iast X (by decide) rfl (by unfold vp_in; decide) dX8_sheet_74 ?_
                refine j_eqM (M1 := (up M 87 0 bits)) rfl ?_
                refine j_aload_n X 0 rfl rfl dX8_sheet_75 ?_
                refine j_get X (by decide) (wE_8 _ rfl) rfl awF8 16 (by decide) aw_100 rfl (v := .ref (ad 88)) rfl dX8_sheet_76 ?_
                refine j_iload_n X 1 rfl rfl dX8_sheet_79 ?_
                refine j_iload_n X 2 rfl rfl dX8_sheet_80 ?_
                refine j_if_ne X 88 (by decide) dX8_sheet_81 (fun c_40 => ?_) (fun c_40 => False.elim (by rw [c_35] at c_40; revert c_40; decide))
                refine j_iload_n X 3 rfl rfl dX8_sheet_88 ?_
                refine j_iast X (by decide) rfl (by unfold vp_in; decide) dX8_sheet_89 ?_
                refine j_eqM (M1 := (up (up M 87 0 bits) 88 0 n)) rfl ?_
                refine j_iconst X (v := 0) (by decide) dX8_sheet_90 ?_
                refine j_istore X [(4, .int 0), (0, .ref (ad 79)), (1, .int 0), (2, .int bits), (3, .int n)] (by decide) rfl dX8_sheet_91 ?_
                have loop41 : ∀ (n_41 i_41 : Nat) (M41 : Mem), i_41 ≤ 40 → 40 - i_41 < n_41 → sm (fun b _ => b == 89) (up (up M 87 0 bits) 88 0 n) M41 → J p l e (rmN 6) s m args below meth c 0 0 (QI (fun r _ => sp_sheet 0 bits n = r) D y ad M s args below) D y ad (va_A (PL y ad M) s.heap.size) 5 M41 93 [(4, .int (nI i_41)), (0, .ref (ad 79)), (1, .int 0), (2, .int bits), (3, .int n)] [] := by
                  intro n_41
                  induction n_41 with
                  | zero => intro i_41 M41 h1 h2; exact absurd h2 (by omega)
                  | succ n_41 ih41 =>
                    intro i_41 M41 h1i_41 h2i_41 hs41
                    refine j_iload X 0 rfl dX8_sheet_93 ?_
                    refine j_bipush X (v := 40) (by decide) dX8_sheet_95 ?_
                    refine j_icmp_ge X 119 (by decide) dX8_sheet_97 (fun c_42 => ?_) (fun c_42 => ?_)
                    · have c_42 := (nI_leI (by omega) (by omega)).mp (show nI (40) ≤ nI i_41 from c_42)
                      refine j_iconst X (v := 1) (by decide) dX8_sheet_119 ?_
                      exact j_iret X hr hlocks dX8_sheet_120 (by unfold sp_sheet; (repeat' split) <;> first | rfl | omega | (exfalso; omega))
                    · have c_42 : i_41 < 40 := by
                        rcases Nat.lt_or_ge i_41 (40) with g | g
                        · exact g
                        · exact absurd (show nI (40) ≤ nI i_41 from nI_le g (by omega)) c_42
                      refine j_aload_n X 1 rfl rfl dX8_sheet_100 ?_
                      refine j_get X (by decide) (wE_8 _ rfl) rfl awF8 17 (by decide) aw_101 rfl (v := .ref (ad 89)) rfl dX8_sheet_101 ?_
                      refine j_bipush X (v := 40) (by decide) dX8_sheet_104 ?_
                      refine j_iload_n X 2 rfl rfl dX8_sheet_106 ?_
                      refine j_imul X dX8_sheet_107 ?_
                      refine j_eqi (v := 0) (by decide) ?_
                      refine j_iload X 0 rfl dX8_sheet_108 ?_
                      refine j_iadd X dX8_sheet_110 ?_
                      refine j_eqi (v := (nI i_41)) (Int32.zero_add _) ?_
                      refine j_iconst X (v := 0) (by decide) dX8_sheet_111 ?_
                      refine j_iast X (by decide) rfl (show vp_in (nI i_41) 160 from vp_in_nI (by omega) (by decide)) dX8_sheet_112 ?_
                      refine j_eqM (M1 := (up M41 89 i_41 0)) (by rw [nI_clamp (by omega)]) ?_
                      refine j_iinc X (v := (nI (i_41 + 1))) 0 [(4, .int (nI (i_41 + 1))), (0, .ref (ad 79)), (1, .int 0), (2, .int bits), (3, .int n)] rfl (show nI i_41 + Int32.ofInt 1 = _ from nI_1 i_41) (by decide) rfl dX8_sheet_113 ?_
                      refine j_goto X 93 (by decide) dX8_sheet_116 ?_
                      refine j_lv (lv1 := [(4, .int (nI (i_41 + 1))), (0, .ref (ad 79)), (1, .int 0), (2, .int bits), (3, .int n)]) [0, 1, 2, 3, 4] rfl ?_
                      exact ih41 (i_41 + 1) _ (by omega) (by omega) (sm_up hs41 rfl)
                refine j_lv (lv1 := [(4, .int (nI 0)), (0, .ref (ad 79)), (1, .int 0), (2, .int bits), (3, .int n)]) [0, 1, 2, 3, 4] rfl ?_
                exact loop41 (40 + 1) 0 _ (by omega) (by omega) sm_rf
              · refine j_iast X (by decide) rfl (by unfold vp_in; decide) dX8_sheet_74 ?_
                refine j_eqM (M1 := (up M 87 1 bits)) rfl ?_
                refine j_aload_n X 0 rfl rfl dX8_sheet_75 ?_
                refine j_get X (by decide) (wE_8 _ rfl) rfl awF8 16 (by decide) aw_100 rfl (v := .ref (ad 88)) rfl dX8_sheet_76 ?_
                refine j_iload_n X 1 rfl rfl dX8_sheet_79 ?_
                refine j_iload_n X 2 rfl rfl dX8_sheet_80 ?_
                refine j_if_ne X 88 (by decide) dX8_sheet_81 (fun c_43 => ?_) (fun c_43 => False.elim (by rw [c_35] at c_43; revert c_43; decide))
                refine j_iload_n X 3 rfl rfl dX8_sheet_88 ?_
                refine j_iast X (by decide) rfl (by unfold vp_in; decide) dX8_sheet_89 ?_
                refine j_eqM (M1 := (up (up M 87 1 bits) 88 1 n)) rfl ?_
                refine j_iconst X (v := 0) (by decide) dX8_sheet_90 ?_
                refine j_istore X [(4, .int 0), (0, .ref (ad 79)), (1, .int 1), (2, .int bits), (3, .int n)] (by decide) rfl dX8_sheet_91 ?_
                have loop44 : ∀ (n_44 i_44 : Nat) (M44 : Mem), i_44 ≤ 40 → 40 - i_44 < n_44 → sm (fun b _ => b == 89) (up (up M 87 1 bits) 88 1 n) M44 → J p l e (rmN 6) s m args below meth c 0 0 (QI (fun r _ => sp_sheet 1 bits n = r) D y ad M s args below) D y ad (va_A (PL y ad M) s.heap.size) 5 M44 93 [(4, .int (nI i_44)), (0, .ref (ad 79)), (1, .int 1), (2, .int bits), (3, .int n)] [] := by
                  intro n_44
                  induction n_44 with
                  | zero => intro i_44 M44 h1 h2; exact absurd h2 (by omega)
                  | succ n_44 ih44 =>
                    intro i_44 M44 h1i_44 h2i_44 hs44
                    refine j_iload X 0 rfl dX8_sheet_93 ?_
                    refine j_bipush X (v := 40) (by decide) dX8_sheet_95 ?_
                    refine j_icmp_ge X 119 (by decide) dX8_sheet_97 (fun c_45 => ?_) (fun c_45 => ?_)
                    · have c_45 := (nI_leI (by omega) (by omega)).mp (show nI (40) ≤ nI i_44 from c_45)
                      refine j_iconst X (v := 1) (by decide) dX8_sheet_119 ?_
                      exact j_iret X hr hlocks dX8_sheet_120 (by unfold sp_sheet; (repeat' split) <;> first | rfl | omega | (exfalso; omega))
                    · have c_45 : i_44 < 40 := by
                        rcases Nat.lt_or_ge i_44 (40) with g | g
                        · exact g
                        · exact absurd (show nI (40) ≤ nI i_44 from nI_le g (by omega)) c_45
                      refine j_aload_n X 1 rfl rfl dX8_sheet_100 ?_
                      refine j_get X (by decide) (wE_8 _ rfl) rfl awF8 17 (by decide) aw_101 rfl (v := .ref (ad 89)) rfl dX8_sheet_101 ?_
                      refine j_bipush X (v := 40) (by decide) dX8_sheet_104 ?_
                      refine j_iload_n X 2 rfl rfl dX8_sheet_106 ?_
                      refine j_imul X dX8_sheet_107 ?_
                      refine j_eqi (v := 40) (by decide) ?_
                      refine j_iload X 0 rfl dX8_sheet_108 ?_
                      refine j_iadd X dX8_sheet_110 ?_
                      refine j_iconst X (v := 0) (by decide) dX8_sheet_111 ?_
                      refine j_iast X (by decide) rfl (by rw [show (40 : Int32) + nI i_44 = nI (40 + i_44) from nI_add 40 i_44]; exact (show vp_in (nI (40 + i_44)) 160 from vp_in_nI (by omega) (by decide))) dX8_sheet_112 ?_
                      refine j_eqM (M1 := (up M44 89 (40 + i_44) 0)) (by rw [show (40 : Int32) + nI i_44 = nI (40 + i_44) from nI_add 40 i_44, nI_clamp (by omega)]) ?_
                      refine j_iinc X (v := (nI (i_44 + 1))) 0 [(4, .int (nI (i_44 + 1))), (0, .ref (ad 79)), (1, .int 1), (2, .int bits), (3, .int n)] rfl (show nI i_44 + Int32.ofInt 1 = _ from nI_1 i_44) (by decide) rfl dX8_sheet_113 ?_
                      refine j_goto X 93 (by decide) dX8_sheet_116 ?_
                      refine j_lv (lv1 := [(4, .int (nI (i_44 + 1))), (0, .ref (ad 79)), (1, .int 1), (2, .int bits), (3, .int n)]) [0, 1, 2, 3, 4] rfl ?_
                      exact ih44 (i_44 + 1) _ (by omega) (by omega) (sm_up hs44 rfl)
                refine j_lv (lv1 := [(4, .int (nI 0)), (0, .ref (ad 79)), (1, .int 1), (2, .int bits), (3, .int n)]) [0, 1, 2, 3, 4] rfl ?_
                exact loop44 (40 + 1) 0 _ (by omega) (by omega) sm_rf
              · refine j_iast X (by decide) rfl (by unfold vp_in; decide) dX8_sheet_74 ?_
                refine j_eqM (M1 := (up M 87 2 bits)) rfl ?_
                refine j_aload_n X 0 rfl rfl dX8_sheet_75 ?_
                refine j_get X (by decide) (wE_8 _ rfl) rfl awF8 16 (by decide) aw_100 rfl (v := .ref (ad 88)) rfl dX8_sheet_76 ?_
                refine j_iload_n X 1 rfl rfl dX8_sheet_79 ?_
                refine j_iload_n X 2 rfl rfl dX8_sheet_80 ?_
                refine j_if_ne X 88 (by decide) dX8_sheet_81 (fun c_46 => ?_) (fun c_46 => False.elim (by rw [c_35] at c_46; revert c_46; decide))
                refine j_iload_n X 3 rfl rfl dX8_sheet_88 ?_
                refine j_iast X (by decide) rfl (by unfold vp_in; decide) dX8_sheet_89 ?_
                refine j_eqM (M1 := (up (up M 87 2 bits) 88 2 n)) rfl ?_
                refine j_iconst X (v := 0) (by decide) dX8_sheet_90 ?_
                refine j_istore X [(4, .int 0), (0, .ref (ad 79)), (1, .int 2), (2, .int bits), (3, .int n)] (by decide) rfl dX8_sheet_91 ?_
                have loop47 : ∀ (n_47 i_47 : Nat) (M47 : Mem), i_47 ≤ 40 → 40 - i_47 < n_47 → sm (fun b _ => b == 89) (up (up M 87 2 bits) 88 2 n) M47 → J p l e (rmN 6) s m args below meth c 0 0 (QI (fun r _ => sp_sheet 2 bits n = r) D y ad M s args below) D y ad (va_A (PL y ad M) s.heap.size) 5 M47 93 [(4, .int (nI i_47)), (0, .ref (ad 79)), (1, .int 2), (2, .int bits), (3, .int n)] [] := by
                  intro n_47
                  induction n_47 with
                  | zero => intro i_47 M47 h1 h2; exact absurd h2 (by omega)
                  | succ n_47 ih47 =>
                    intro i_47 M47 h1i_47 h2i_47 hs47
                    refine j_iload X 0 rfl dX8_sheet_93 ?_
                    refine j_bipush X (v := 40) (by decide) dX8_sheet_95 ?_
                    refine j_icmp_ge X 119 (by decide) dX8_sheet_97 (fun c_48 => ?_) (fun c_48 => ?_)
                    · have c_48 := (nI_leI (by omega) (by omega)).mp (show nI (40) ≤ nI i_47 from c_48)
                      refine j_iconst X (v := 1) (by decide) dX8_sheet_119 ?_
                      exact j_iret X hr hlocks dX8_sheet_120 (by unfold sp_sheet; (repeat' split) <;> first | rfl | omega | (exfalso; omega))
                    · have c_48 : i_47 < 40 := by
                        rcases Nat.lt_or_ge i_47 (40) with g | g
                        · exact g
                        · exact absurd (show nI (40) ≤ nI i_47 from nI_le g (by omega)) c_48
                      refine j_aload_n X 1 rfl rfl dX8_sheet_100 ?_
                      refine j_get X (by decide) (wE_8 _ rfl) rfl awF8 17 (by decide) aw_101 rfl (v := .ref (ad 89)) rfl dX8_sheet_101 ?_
                      refine j_bipush X (v := 40) (by decide) dX8_sheet_104 ?_
                      refine j_iload_n X 2 rfl rfl dX8_sheet_106 ?_
                      refine j_imul X dX8_sheet_107 ?_
                      refine j_eqi (v := 80) (by decide) ?_
                      refine j_iload X 0 rfl dX8_sheet_108 ?_
                      refine j_iadd X dX8_sheet_110 ?_
                      refine j_iconst X (v := 0) (by decide) dX8_sheet_111 ?_
                      refine j_iast X (by decide) rfl (by rw [show (80 : Int32) + nI i_47 = nI (80 + i_47) from nI_add 80 i_47]; exact (show vp_in (nI (80 + i_47)) 160 from vp_in_nI (by omega) (by decide))) dX8_sheet_112 ?_
                      refine j_eqM (M1 := (up M47 89 (80 + i_47) 0)) (by rw [show (80 : Int32) + nI i_47 = nI (80 + i_47) from nI_add 80 i_47, nI_clamp (by omega)]) ?_
                      refine j_iinc X (v := (nI (i_47 + 1))) 0 [(4, .int (nI (i_47 + 1))), (0, .ref (ad 79)), (1, .int 2), (2, .int bits), (3, .int n)] rfl (show nI i_47 + Int32.ofInt 1 = _ from nI_1 i_47) (by decide) rfl dX8_sheet_113 ?_
                      refine j_goto X 93 (by decide) dX8_sheet_116 ?_
                      refine j_lv (lv1 := [(4, .int (nI (i_47 + 1))), (0, .ref (ad 79)), (1, .int 2), (2, .int bits), (3, .int n)]) [0, 1, 2, 3, 4] rfl ?_
                      exact ih47 (i_47 + 1) _ (by omega) (by omega) (sm_up hs47 rfl)
                refine j_lv (lv1 := [(4, .int (nI 0)), (0, .ref (ad 79)), (1, .int 2), (2, .int bits), (3, .int n)]) [0, 1, 2, 3, 4] rfl ?_
                exact loop47 (40 + 1) 0 _ (by omega) (by omega) sm_rf
              · refine j_iast X (by decide) rfl (by unfold vp_in; decide) dX8_sheet_74 ?_
                refine j_eqM (M1 := (up M 87 3 bits)) rfl ?_
                refine j_aload_n X 0 rfl rfl dX8_sheet_75 ?_
                refine j_get X (by decide) (wE_8 _ rfl) rfl awF8 16 (by decide) aw_100 rfl (v := .ref (ad 88)) rfl dX8_sheet_76 ?_
                refine j_iload_n X 1 rfl rfl dX8_sheet_79 ?_
                refine j_iload_n X 2 rfl rfl dX8_sheet_80 ?_
                refine j_if_ne X 88 (by decide) dX8_sheet_81 (fun c_49 => ?_) (fun c_49 => False.elim (by rw [c_35] at c_49; revert c_49; decide))
                refine j_iload_n X 3 rfl rfl dX8_sheet_88 ?_
                refine j_iast X (by decide) rfl (by unfold vp_in; decide) dX8_sheet_89 ?_
                refine j_eqM (M1 := (up (up M 87 3 bits) 88 3 n)) rfl ?_
                refine j_iconst X (v := 0) (by decide) dX8_sheet_90 ?_
                refine j_istore X [(4, .int 0), (0, .ref (ad 79)), (1, .int 3), (2, .int bits), (3, .int n)] (by decide) rfl dX8_sheet_91 ?_
                have loop50 : ∀ (n_50 i_50 : Nat) (M50 : Mem), i_50 ≤ 40 → 40 - i_50 < n_50 → sm (fun b _ => b == 89) (up (up M 87 3 bits) 88 3 n) M50 → J p l e (rmN 6) s m args below meth c 0 0 (QI (fun r _ => sp_sheet 3 bits n = r) D y ad M s args below) D y ad (va_A (PL y ad M) s.heap.size) 5 M50 93 [(4, .int (nI i_50)), (0, .ref (ad 79)), (1, .int 3), (2, .int bits), (3, .int n)] [] := by
                  intro n_50
                  induction n_50 with
                  | zero => intro i_50 M50 h1 h2; exact absurd h2 (by omega)
                  | succ n_50 ih50 =>
                    intro i_50 M50 h1i_50 h2i_50 hs50
                    refine j_iload X 0 rfl dX8_sheet_93 ?_
                    refine j_bipush X (v := 40) (by decide) dX8_sheet_95 ?_
                    refine j_icmp_ge X 119 (by decide) dX8_sheet_97 (fun c_51 => ?_) (fun c_51 => ?_)
                    · have c_51 := (nI_leI (by omega) (by omega)).mp (show nI (40) ≤ nI i_50 from c_51)
                      refine j_iconst X (v := 1) (by decide) dX8_sheet_119 ?_
                      exact j_iret X hr hlocks dX8_sheet_120 (by unfold sp_sheet; (repeat' split) <;> first | rfl | omega | (exfalso; omega))
                    · have c_51 : i_50 < 40 := by
                        rcases Nat.lt_or_ge i_50 (40) with g | g
                        · exact g
                        · exact absurd (show nI (40) ≤ nI i_50 from nI_le g (by omega)) c_51
                      refine j_aload_n X 1 rfl rfl dX8_sheet_100 ?_
                      refine j_get X (by decide) (wE_8 _ rfl) rfl awF8 17 (by decide) aw_101 rfl (v := .ref (ad 89)) rfl dX8_sheet_101 ?_
                      refine j_bipush X (v := 40) (by decide) dX8_sheet_104 ?_
                      refine j_iload_n X 2 rfl rfl dX8_sheet_106 ?_
                      refine j_imul X dX8_sheet_107 ?_
                      refine j_eqi (v := 120) (by decide) ?_
                      refine j_iload X 0 rfl dX8_sheet_108 ?_
                      refine j_iadd X dX8_sheet_110 ?_
                      refine j_iconst X (v := 0) (by decide) dX8_sheet_111 ?_
                      refine j_iast X (by decide) rfl (by rw [show (120 : Int32) + nI i_50 = nI (120 + i_50) from nI_add 120 i_50]; exact (show vp_in (nI (120 + i_50)) 160 from vp_in_nI (by omega) (by decide))) dX8_sheet_112 ?_
                      refine j_eqM (M1 := (up M50 89 (120 + i_50) 0)) (by rw [show (120 : Int32) + nI i_50 = nI (120 + i_50) from nI_add 120 i_50, nI_clamp (by omega)]) ?_
                      refine j_iinc X (v := (nI (i_50 + 1))) 0 [(4, .int (nI (i_50 + 1))), (0, .ref (ad 79)), (1, .int 3), (2, .int bits), (3, .int n)] rfl (show nI i_50 + Int32.ofInt 1 = _ from nI_1 i_50) (by decide) rfl dX8_sheet_113 ?_
                      refine j_goto X 93 (by decide) dX8_sheet_116 ?_
                      refine j_lv (lv1 := [(4, .int (nI (i_50 + 1))), (0, .ref (ad 79)), (1, .int 3), (2, .int bits), (3, .int n)]) [0, 1, 2, 3, 4] rfl ?_
                      exact ih50 (i_50 + 1) _ (by omega) (by omega) (sm_up hs50 rfl)
                refine j_lv (lv1 := [(4, .int (nI 0)), (0, .ref (ad 79)), (1, .int 3), (2, .int bits), (3, .int n)]) [0, 1, 2, 3, 4] rfl ?_
                exact loop50 (40 + 1) 0 _ (by omega) (by omega) sm_rf
            · have qc_39 := ti_nle (a := n.toInt) (b := 40) rfl (by decide) c_39
              refine j_aload_n X 0 rfl rfl dX8_sheet_61 ?_
              refine j_ldc X (v := (-1000000001)) aw_132 dX8_sheet_62 ?_
              refine j_callVI X (nn := 1) (As := [.int (-1000000001)]) (st := []) (ci := 8) (by decide) (wE_8 _ rfl) rfl aw_144 aw_145 (c_X8_errs l D y ad M (-1000000001) 1 (by decide) (by decide)) aw_143 aw_146 aw_5 (by decide +kernel) ⟨by decide, by decide⟩ rfl (Nat.le_of_ble_eq_true rfl) ⟨by decide, by decide⟩ dX8_sheet_64 ?_
              rintro r_ M1_ ⟨rfl, rfl⟩
              exact j_iret X hr hlocks dX8_sheet_67 (by unfold sp_sheet; (repeat' split) <;> first | rfl | omega | (exfalso; omega))
          · have qc_37 := ti_nle (a := 0) (b := n.toInt) (by decide) rfl c_37
            refine j_aload_n X 0 rfl rfl dX8_sheet_44 ?_
            refine j_ldc X (v := (-1000000003)) aw_480 dX8_sheet_45 ?_
            refine j_callVI X (nn := 1) (As := [.int (-1000000003)]) (st := []) (ci := 8) (by decide) (wE_8 _ rfl) rfl aw_144 aw_145 (c_X8_errs l D y ad M (-1000000003) 3 (by decide) (by decide)) aw_143 aw_146 aw_5 (by decide +kernel) ⟨by decide, by decide⟩ rfl (Nat.le_of_ble_eq_true rfl) ⟨by decide, by decide⟩ dX8_sheet_47 ?_
            rintro r_ M1_ ⟨rfl, rfl⟩
            exact j_iret X hr hlocks dX8_sheet_50 (by unfold sp_sheet; (repeat' split) <;> first | rfl | omega | (exfalso; omega))
        · have qc_35 := ti_ne (n := 16) (by decide) c_35
          refine j_iload_n X 2 rfl rfl dX8_sheet_23 ?_
          refine j_bipush X (v := 32) (by decide) dX8_sheet_24 ?_
          refine j_icmp_eq X 36 (by decide) dX8_sheet_26 (fun c_52 => ?_) (fun c_52 => ?_)
          · have qc_52 := ti_eq (n := 32) (by decide) c_52
            refine j_iload_n X 2 rfl rfl dX8_sheet_36 ?_
            refine j_if_eq X 51 (by decide) dX8_sheet_37 (fun c_53 => False.elim (by rw [c_52] at c_53; revert c_53; decide)) (fun c_53 => ?_)
            refine j_iload_n X 3 rfl rfl dX8_sheet_40 ?_
            refine j_if_ge X 51 (by decide) dX8_sheet_41 (fun c_54 => ?_) (fun c_54 => ?_)
            · have qc_54 := ti_le (a := 0) (b := n.toInt) (by decide) rfl c_54
              refine j_iload_n X 2 rfl rfl dX8_sheet_51 ?_
              refine j_if_eq X 68 (by decide) dX8_sheet_52 (fun c_55 => False.elim (by rw [c_52] at c_55; revert c_55; decide)) (fun c_55 => ?_)
              refine j_iload_n X 3 rfl rfl dX8_sheet_55 ?_
              refine j_bipush X (v := 40) (by decide) dX8_sheet_56 ?_
              refine j_icmp_le X 68 (by decide) dX8_sheet_58 (fun c_56 => ?_) (fun c_56 => ?_)
              · have qc_56 := ti_le (a := n.toInt) (b := 40) rfl (by decide) c_56
                refine j_aload_n X 0 rfl rfl dX8_sheet_68 ?_
                refine j_get X (by decide) (wE_8 _ rfl) rfl awF8 15 (by decide) aw_99 rfl (v := .ref (ad 87)) rfl dX8_sheet_69 ?_
                refine j_iload_n X 1 rfl rfl dX8_sheet_72 ?_
                refine j_iload_n X 2 rfl rfl dX8_sheet_73 ?_
                rcases is_0_3 h_1 with rfl | rfl | rfl | rfl
                · refine j_iast X (by decide) rfl (by unfold vp_in; decide) dX8_sheet_74 ?_
                  refine j_eqM (M1 := (up M 87 0 bits)) rfl ?_
                  refine j_aload_n X 0 rfl rfl dX8_sheet_75 ?_
                  refine j_get X (by decide) (wE_8 _ rfl) rfl awF8 16 (by decide) aw_100 rfl (v := .ref (ad 88)) rfl dX8_sheet_76 ?_
                  refine j_iload_n X 1 rfl rfl dX8_sheet_79 ?_
                  refine j_iload_n X 2 rfl rfl dX8_sheet_80 ?_
                  refine j_if_ne X 88 (by decide) dX8_sheet_81 (fun c_57 => ?_) (fun c_57 => False.elim (by rw [c_52] at c_57; revert c_57; decide))
                  refine j_iload_n X 3 rfl rfl dX8_sheet_88 ?_
                  refine j_iast X (by decide) rfl (by unfold vp_in; decide) dX8_sheet_89 ?_
                  refine j_eqM (M1 := (up (up M 87 0 bits) 88 0 n)) rfl ?_
                  refine j_iconst X (v := 0) (by decide) dX8_sheet_90 ?_
                  refine j_istore X [(4, .int 0), (0, .ref (ad 79)), (1, .int 0), (2, .int bits), (3, .int n)] (by decide) rfl dX8_sheet_91 ?_
                  have loop58 : ∀ (n_58 i_58 : Nat) (M58 : Mem), i_58 ≤ 40 → 40 - i_58 < n_58 → sm (fun b _ => b == 89) (up (up M 87 0 bits) 88 0 n) M58 → J p l e (rmN 6) s m args below meth c 0 0 (QI (fun r _ => sp_sheet 0 bits n = r) D y ad M s args below) D y ad (va_A (PL y ad M) s.heap.size) 5 M58 93 [(4, .int (nI i_58)), (0, .ref (ad 79)), (1, .int 0), (2, .int bits), (3, .int n)] [] := by
                    intro n_58
                    induction n_58 with
                    | zero => intro i_58 M58 h1 h2; exact absurd h2 (by omega)
                    | succ n_58 ih58 =>
                      intro i_58 M58 h1i_58 h2i_58 hs58
                      refine j_iload X 0 rfl dX8_sheet_93 ?_
                      refine j_bipush X (v := 40) (by decide) dX8_sheet_95 ?_
                      refine j_icmp_ge X 119 (by decide) dX8_sheet_97 (fun c_59 => ?_) (fun c_59 => ?_)
                      · have c_59 := (nI_leI (by omega) (by omega)).mp (show nI (40) ≤ nI i_58 from c_59)
                        refine j_iconst X (v := 1) (by decide) dX8_sheet_119 ?_
                        exact j_iret X hr hlocks dX8_sheet_120 (by unfold sp_sheet; (repeat' split) <;> first | rfl | omega | (exfalso; omega))
                      · have c_59 : i_58 < 40 := by
                          rcases Nat.lt_or_ge i_58 (40) with g | g
                          · exact g
                          · exact absurd (show nI (40) ≤ nI i_58 from nI_le g (by omega)) c_59
                        refine j_aload_n X 1 rfl rfl dX8_sheet_100 ?_
                        refine j_get X (by decide) (wE_8 _ rfl) rfl awF8 17 (by decide) aw_101 rfl (v := .ref (ad 89)) rfl dX8_sheet_101 ?_
                        refine j_bipush X (v := 40) (by decide) dX8_sheet_104 ?_
                        refine j_iload_n X 2 rfl rfl dX8_sheet_106 ?_
                        refine j_imul X dX8_sheet_107 ?_
                        refine j_eqi (v := 0) (by decide) ?_
                        refine j_iload X 0 rfl dX8_sheet_108 ?_
                        refine j_iadd X dX8_sheet_110 ?_
                        refine j_eqi (v := (nI i_58)) (Int32.zero_add _) ?_
                        refine j_iconst X (v := 0) (by decide) dX8_sheet_111 ?_
                        refine j_iast X (by decide) rfl (show vp_in (nI i_58) 160 from vp_in_nI (by omega) (by decide)) dX8_sheet_112 ?_
                        refine j_eqM (M1 := (up M58 89 i_58 0)) (by rw [nI_clamp (by omega)]) ?_
                        refine j_iinc X (v := (nI (i_58 + 1))) 0 [(4, .int (nI (i_58 + 1))), (0, .ref (ad 79)), (1, .int 0), (2, .int bits), (3, .int n)] rfl (show nI i_58 + Int32.ofInt 1 = _ from nI_1 i_58) (by decide) rfl dX8_sheet_113 ?_
                        refine j_goto X 93 (by decide) dX8_sheet_116 ?_
                        refine j_lv (lv1 := [(4, .int (nI (i_58 + 1))), (0, .ref (ad 79)), (1, .int 0), (2, .int bits), (3, .int n)]) [0, 1, 2, 3, 4] rfl ?_
                        exact ih58 (i_58 + 1) _ (by omega) (by omega) (sm_up hs58 rfl)
                  refine j_lv (lv1 := [(4, .int (nI 0)), (0, .ref (ad 79)), (1, .int 0), (2, .int bits), (3, .int n)]) [0, 1, 2, 3, 4] rfl ?_
                  exact loop58 (40 + 1) 0 _ (by omega) (by omega) sm_rf
                · refine j_iast X (by decide) rfl (by unfold vp_in; decide) dX8_sheet_74 ?_
                  refine j_eqM (M1 := (up M 87 1 bits)) rfl ?_
                  refine j_aload_n X 0 rfl rfl dX8_sheet_75 ?_
                  refine j_get X (by decide) (wE_8 _ rfl) rfl awF8 16 (by decide) aw_100 rfl (v := .ref (ad 88)) rfl dX8_sheet_76 ?_
                  refine j_iload_n X 1 rfl rfl dX8_sheet_79 ?_
                  refine j_iload_n X 2 rfl rfl dX8_sheet_80 ?_
                  refine j_if_ne X 88 (by decide) dX8_sheet_81 (fun c_60 => ?_) (fun c_60 => False.elim (by rw [c_52] at c_60; revert c_60; decide))
                  refine j_iload_n X 3 rfl rfl dX8_sheet_88 ?_
                  refine j_iast X (by decide) rfl (by unfold vp_in; decide) dX8_sheet_89 ?_
                  refine j_eqM (M1 := (up (up M 87 1 bits) 88 1 n)) rfl ?_
                  refine j_iconst X (v := 0) (by decide) dX8_sheet_90 ?_
                  refine j_istore X [(4, .int 0), (0, .ref (ad 79)), (1, .int 1), (2, .int bits), (3, .int n)] (by decide) rfl dX8_sheet_91 ?_
                  have loop61 : ∀ (n_61 i_61 : Nat) (M61 : Mem), i_61 ≤ 40 → 40 - i_61 < n_61 → sm (fun b _ => b == 89) (up (up M 87 1 bits) 88 1 n) M61 → J p l e (rmN 6) s m args below meth c 0 0 (QI (fun r _ => sp_sheet 1 bits n = r) D y ad M s args below) D y ad (va_A (PL y ad M) s.heap.size) 5 M61 93 [(4, .int (nI i_61)), (0, .ref (ad 79)), (1, .int 1), (2, .int bits), (3, .int n)] [] := by
                    intro n_61
                    induction n_61 with
                    | zero => intro i_61 M61 h1 h2; exact absurd h2 (by omega)
                    | succ n_61 ih61 =>
                      intro i_61 M61 h1i_61 h2i_61 hs61
                      refine j_iload X 0 rfl dX8_sheet_93 ?_
                      refine j_bipush X (v := 40) (by decide) dX8_sheet_95 ?_
                      refine j_icmp_ge X 119 (by decide) dX8_sheet_97 (fun c_62 => ?_) (fun c_62 => ?_)
                      · have c_62 := (nI_leI (by omega) (by omega)).mp (show nI (40) ≤ nI i_61 from c_62)
                        refine j_iconst X (v := 1) (by decide) dX8_sheet_119 ?_
                        exact j_iret X hr hlocks dX8_sheet_120 (by unfold sp_sheet; (repeat' split) <;> first | rfl | omega | (exfalso; omega))
                      · have c_62 : i_61 < 40 := by
                          rcases Nat.lt_or_ge i_61 (40) with g | g
                          · exact g
                          · exact absurd (show nI (40) ≤ nI i_61 from nI_le g (by omega)) c_62
                        refine j_aload_n X 1 rfl rfl dX8_sheet_100 ?_
                        refine j_get X (by decide) (wE_8 _ rfl) rfl awF8 17 (by decide) aw_101 rfl (v := .ref (ad 89)) rfl dX8_sheet_101 ?_
                        refine j_bipush X (v := 40) (by decide) dX8_sheet_104 ?_
                        refine j_iload_n X 2 rfl rfl dX8_sheet_106 ?_
                        refine j_imul X dX8_sheet_107 ?_
                        refine j_eqi (v := 40) (by decide) ?_
                        refine j_iload X 0 rfl dX8_sheet_108 ?_
                        refine j_iadd X dX8_sheet_110 ?_
                        refine j_iconst X (v := 0) (by decide) dX8_sheet_111 ?_
                        refine j_iast X (by decide) rfl (by rw [show (40 : Int32) + nI i_61 = nI (40 + i_61) from nI_add 40 i_61]; exact (show vp_in (nI (40 + i_61)) 160 from vp_in_nI (by omega) (by decide))) dX8_sheet_112 ?_
                        refine j_eqM (M1 := (up M61 89 (40 + i_61) 0)) (by rw [show (40 : Int32) + nI i_61 = nI (40 + i_61) from nI_add 40 i_61, nI_clamp (by omega)]) ?_
                        refine j_iinc X (v := (nI (i_61 + 1))) 0 [(4, .int (nI (i_61 + 1))), (0, .ref (ad 79)), (1, .int 1), (2, .int bits), (3, .int n)] rfl (show nI i_61 + Int32.ofInt 1 = _ from nI_1 i_61) (by decide) rfl dX8_sheet_113 ?_
                        refine j_goto X 93 (by decide) dX8_sheet_116 ?_
                        refine j_lv (lv1 := [(4, .int (nI (i_61 + 1))), (0, .ref (ad 79)), (1, .int 1), (2, .int bits), (3, .int n)]) [0, 1, 2, 3, 4] rfl ?_
                        exact ih61 (i_61 + 1) _ (by omega) (by omega) (sm_up hs61 rfl)
                  refine j_lv (lv1 := [(4, .int (nI 0)), (0, .ref (ad 79)), (1, .int 1), (2, .int bits), (3, .int n)]) [0, 1, 2, 3, 4] rfl ?_
                  exact loop61 (40 + 1) 0 _ (by omega) (by omega) sm_rf
                · refine j_iast X (by decide) rfl (by unfold vp_in; decide) dX8_sheet_74 ?_
                  refine j_eqM (M1 := (up M 87 2 bits)) rfl ?_
                  refine j_aload_n X 0 rfl rfl dX8_sheet_75 ?_
                  refine j_get X (by decide) (wE_8 _ rfl) rfl awF8 16 (by decide) aw_100 rfl (v := .ref (ad 88)) rfl dX8_sheet_76 ?_
                  refine j_iload_n X 1 rfl rfl dX8_sheet_79 ?_
                  refine j_iload_n X 2 rfl rfl dX8_sheet_80 ?_
                  refine j_if_ne X 88 (by decide) dX8_sheet_81 (fun c_63 => ?_) (fun c_63 => False.elim (by rw [c_52] at c_63; revert c_63; decide))
                  refine j_iload_n X 3 rfl rfl dX8_sheet_88 ?_
                  refine j_iast X (by decide) rfl (by unfold vp_in; decide) dX8_sheet_89 ?_
                  refine j_eqM (M1 := (up (up M 87 2 bits) 88 2 n)) rfl ?_
                  refine j_iconst X (v := 0) (by decide) dX8_sheet_90 ?_
                  refine j_istore X [(4, .int 0), (0, .ref (ad 79)), (1, .int 2), (2, .int bits), (3, .int n)] (by decide) rfl dX8_sheet_91 ?_
                  have loop64 : ∀ (n_64 i_64 : Nat) (M64 : Mem), i_64 ≤ 40 → 40 - i_64 < n_64 → sm (fun b _ => b == 89) (up (up M 87 2 bits) 88 2 n) M64 → J p l e (rmN 6) s m args below meth c 0 0 (QI (fun r _ => sp_sheet 2 bits n = r) D y ad M s args below) D y ad (va_A (PL y ad M) s.heap.size) 5 M64 93 [(4, .int (nI i_64)), (0, .ref (ad 79)), (1, .int 2), (2, .int bits), (3, .int n)] [] := by
                    intro n_64
                    induction n_64 with
                    | zero => intro i_64 M64 h1 h2; exact absurd h2 (by omega)
                    | succ n_64 ih64 =>
                      intro i_64 M64 h1i_64 h2i_64 hs64
                      refine j_iload X 0 rfl dX8_sheet_93 ?_
                      refine j_bipush X (v := 40) (by decide) dX8_sheet_95 ?_
                      refine j_icmp_ge X 119 (by decide) dX8_sheet_97 (fun c_65 => ?_) (fun c_65 => ?_)
                      · have c_65 := (nI_leI (by omega) (by omega)).mp (show nI (40) ≤ nI i_64 from c_65)
                        refine j_iconst X (v := 1) (by decide) dX8_sheet_119 ?_
                        exact j_iret X hr hlocks dX8_sheet_120 (by unfold sp_sheet; (repeat' split) <;> first | rfl | omega | (exfalso; omega))
                      · have c_65 : i_64 < 40 := by
                          rcases Nat.lt_or_ge i_64 (40) with g | g
                          · exact g
                          · exact absurd (show nI (40) ≤ nI i_64 from nI_le g (by omega)) c_65
                        refine j_aload_n X 1 rfl rfl dX8_sheet_100 ?_
                        refine j_get X (by decide) (wE_8 _ rfl) rfl awF8 17 (by decide) aw_101 rfl (v := .ref (ad 89)) rfl dX8_sheet_101 ?_
                        refine j_bipush X (v := 40) (by decide) dX8_sheet_104 ?_
                        refine j_iload_n X 2 rfl rfl dX8_sheet_106 ?_
                        refine j_imul X dX8_sheet_107 ?_
                        refine j_eqi (v := 80) (by decide) ?_
                        refine j_iload X 0 rfl dX8_sheet_108 ?_
                        refine j_iadd X dX8_sheet_110 ?_
                        refine j_iconst X (v := 0) (by decide) dX8_sheet_111 ?_
                        refine j_iast X (by decide) rfl (by rw [show (80 : Int32) + nI i_64 = nI (80 + i_64) from nI_add 80 i_64]; exact (show vp_in (nI (80 + i_64)) 160 from vp_in_nI (by omega) (by decide))) dX8_sheet_112 ?_
                        refine j_eqM (M1 := (up M64 89 (80 + i_64) 0)) (by rw [show (80 : Int32) + nI i_64 = nI (80 + i_64) from nI_add 80 i_64, nI_clamp (by omega)]) ?_
                        refine j_iinc X (v := (nI (i_64 + 1))) 0 [(4, .int (nI (i_64 + 1))), (0, .ref (ad 79)), (1, .int 2), (2, .int bits), (3, .int n)] rfl (show nI i_64 + Int32.ofInt 1 = _ from nI_1 i_64) (by decide) rfl dX8_sheet_113 ?_
                        refine j_goto X 93 (by decide) dX8_sheet_116 ?_
                        refine j_lv (lv1 := [(4, .int (nI (i_64 + 1))), (0, .ref (ad 79)), (1, .int 2), (2, .int bits), (3, .int n)]) [0, 1, 2, 3, 4] rfl ?_
                        exact ih64 (i_64 + 1) _ (by omega) (by omega) (sm_up hs64 rfl)
                  refine j_lv (lv1 := [(4, .int (nI 0)), (0, .ref (ad 79)), (1, .int 2), (2, .int bits), (3, .int n)]) [0, 1, 2, 3, 4] rfl ?_
                  exact loop64 (40 + 1) 0 _ (by omega) (by omega) sm_rf
                · refine j_iast X (by decide) rfl (by unfold vp_in; decide) dX8_sheet_74 ?_
                  refine j_eqM (M1 := (up M 87 3 bits)) rfl ?_
                  refine j_aload_n X 0 rfl rfl dX8_sheet_75 ?_
                  refine j_get X (by decide) (wE_8 _ rfl) rfl awF8 16 (by decide) aw_100 rfl (v := .ref (ad 88)) rfl dX8_sheet_76 ?_
                  refine j_iload_n X 1 rfl rfl dX8_sheet_79 ?_
                  refine j_iload_n X 2 rfl rfl dX8_sheet_80 ?_
                  refine j_if_ne X 88 (by decide) dX8_sheet_81 (fun c_66 => ?_) (fun c_66 => False.elim (by rw [c_52] at c_66; revert c_66; decide))
                  refine j_iload_n X 3 rfl rfl dX8_sheet_88 ?_
                  refine j_iast X (by decide) rfl (by unfold vp_in; decide) dX8_sheet_89 ?_
                  refine j_eqM (M1 := (up (up M 87 3 bits) 88 3 n)) rfl ?_
                  refine j_iconst X (v := 0) (by decide) dX8_sheet_90 ?_
                  refine j_istore X [(4, .int 0), (0, .ref (ad 79)), (1, .int 3), (2, .int bits), (3, .int n)] (by decide) rfl dX8_sheet_91 ?_
                  have loop67 : ∀ (n_67 i_67 : Nat) (M67 : Mem), i_67 ≤ 40 → 40 - i_67 < n_67 → sm (fun b _ => b == 89) (up (up M 87 3 bits) 88 3 n) M67 → J p l e (rmN 6) s m args below meth c 0 0 (QI (fun r _ => sp_sheet 3 bits n = r) D y ad M s args below) D y ad (va_A (PL y ad M) s.heap.size) 5 M67 93 [(4, .int (nI i_67)), (0, .ref (ad 79)), (1, .int 3), (2, .int bits), (3, .int n)] [] := by
                    intro n_67
                    induction n_67 with
                    | zero => intro i_67 M67 h1 h2; exact absurd h2 (by omega)
                    | succ n_67 ih67 =>
                      intro i_67 M67 h1i_67 h2i_67 hs67
                      refine j_iload X 0 rfl dX8_sheet_93 ?_
                      refine j_bipush X (v := 40) (by decide) dX8_sheet_95 ?_
                      refine j_icmp_ge X 119 (by decide) dX8_sheet_97 (fun c_68 => ?_) (fun c_68 => ?_)
                      · have c_68 := (nI_leI (by omega) (by omega)).mp (show nI (40) ≤ nI i_67 from c_68)
                        refine j_iconst X (v := 1) (by decide) dX8_sheet_119 ?_
                        exact j_iret X hr hlocks dX8_sheet_120 (by unfold sp_sheet; (repeat' split) <;> first | rfl | omega | (exfalso; omega))
                      · have c_68 : i_67 < 40 := by
                          rcases Nat.lt_or_ge i_67 (40) with g | g
                          · exact g
                          · exact absurd (show nI (40) ≤ nI i_67 from nI_le g (by omega)) c_68
                        refine j_aload_n X 1 rfl rfl dX8_sheet_100 ?_
                        refine j_get X (by decide) (wE_8 _ rfl) rfl awF8 17 (by decide) aw_101 rfl (v := .ref (ad 89)) rfl dX8_sheet_101 ?_
                        refine j_bipush X (v := 40) (by decide) dX8_sheet_104 ?_
                        refine j_iload_n X 2 rfl rfl dX8_sheet_106 ?_
                        refine j_imul X dX8_sheet_107 ?_
                        refine j_eqi (v := 120) (by decide) ?_
                        refine j_iload X 0 rfl dX8_sheet_108 ?_
                        refine j_iadd X dX8_sheet_110 ?_
                        refine j_iconst X (v := 0) (by decide) dX8_sheet_111 ?_
                        refine j_iast X (by decide) rfl (by rw [show (120 : Int32) + nI i_67 = nI (120 + i_67) from nI_add 120 i_67]; exact (show vp_in (nI (120 + i_67)) 160 from vp_in_nI (by omega) (by decide))) dX8_sheet_112 ?_
                        refine j_eqM (M1 := (up M67 89 (120 + i_67) 0)) (by rw [show (120 : Int32) + nI i_67 = nI (120 + i_67) from nI_add 120 i_67, nI_clamp (by omega)]) ?_
                        refine j_iinc X (v := (nI (i_67 + 1))) 0 [(4, .int (nI (i_67 + 1))), (0, .ref (ad 79)), (1, .int 3), (2, .int bits), (3, .int n)] rfl (show nI i_67 + Int32.ofInt 1 = _ from nI_1 i_67) (by decide) rfl dX8_sheet_113 ?_
                        refine j_goto X 93 (by decide) dX8_sheet_116 ?_
                        refine j_lv (lv1 := [(4, .int (nI (i_67 + 1))), (0, .ref (ad 79)), (1, .int 3), (2, .int bits), (3, .int n)]) [0, 1, 2, 3, 4] rfl ?_
                        exact ih67 (i_67 + 1) _ (by omega) (by omega) (sm_up hs67 rfl)
                  refine j_lv (lv1 := [(4, .int (nI 0)), (0, .ref (ad 79)), (1, .int 3), (2, .int bits), (3, .int n)]) [0, 1, 2, 3, 4] rfl ?_
                  exact loop67 (40 + 1) 0 _ (by omega) (by omega) sm_rf
              · have qc_56 := ti_nle (a := n.toInt) (b := 40) rfl (by decide) c_56
                refine j_aload_n X 0 rfl rfl dX8_sheet_61 ?_
                refine j_ldc X (v := (-1000000001)) aw_132 dX8_sheet_62 ?_
                refine j_callVI X (nn := 1) (As := [.int (-1000000001)]) (st := []) (ci := 8) (by decide) (wE_8 _ rfl) rfl aw_144 aw_145 (c_X8_errs l D y ad M (-1000000001) 1 (by decide) (by decide)) aw_143 aw_146 aw_5 (by decide +kernel) ⟨by decide, by decide⟩ rfl (Nat.le_of_ble_eq_true rfl) ⟨by decide, by decide⟩ dX8_sheet_64 ?_
                rintro r_ M1_ ⟨rfl, rfl⟩
                exact j_iret X hr hlocks dX8_sheet_67 (by unfold sp_sheet; (repeat' split) <;> first | rfl | omega | (exfalso; omega))
            · have qc_54 := ti_nle (a := 0) (b := n.toInt) (by decide) rfl c_54
              refine j_aload_n X 0 rfl rfl dX8_sheet_44 ?_
              refine j_ldc X (v := (-1000000003)) aw_480 dX8_sheet_45 ?_
              refine j_callVI X (nn := 1) (As := [.int (-1000000003)]) (st := []) (ci := 8) (by decide) (wE_8 _ rfl) rfl aw_144 aw_145 (c_X8_errs l D y ad M (-1000000003) 3 (by decide) (by decide)) aw_143 aw_146 aw_5 (by decide +kernel) ⟨by decide, by decide⟩ rfl (Nat.le_of_ble_eq_true rfl) ⟨by decide, by decide⟩ dX8_sheet_47 ?_
              rintro r_ M1_ ⟨rfl, rfl⟩
              exact j_iret X hr hlocks dX8_sheet_50 (by unfold sp_sheet; (repeat' split) <;> first | rfl | omega | (exfalso; omega))
          · have qc_52 := ti_ne (n := 32) (by decide) c_52
            refine j_aload_n X 0 rfl rfl dX8_sheet_29 ?_
            refine j_ldc X (v := (-1000000001)) aw_132 dX8_sheet_30 ?_
            refine j_callVI X (nn := 1) (As := [.int (-1000000001)]) (st := []) (ci := 8) (by decide) (wE_8 _ rfl) rfl aw_144 aw_145 (c_X8_errs l D y ad M (-1000000001) 1 (by decide) (by decide)) aw_143 aw_146 aw_5 (by decide +kernel) ⟨by decide, by decide⟩ rfl (Nat.le_of_ble_eq_true rfl) ⟨by decide, by decide⟩ dX8_sheet_32 ?_
            rintro r_ M1_ ⟨rfl, rfl⟩
            exact j_iret X hr hlocks dX8_sheet_35 (by unfold sp_sheet; (repeat' split) <;> first | rfl | omega | (exfalso; omega))
  · refine j_if_eq X 29 (by decide) dX8_sheet_4 (fun c_69 => ?_) (fun c_69 => False.elim (by revert c_69; decide))
    refine j_aload_n X 0 rfl rfl dX8_sheet_29 ?_
    refine j_ldc X (v := (-1000000001)) aw_132 dX8_sheet_30 ?_
    refine j_callVI X (nn := 1) (As := [.int (-1000000001)]) (st := []) (ci := 8) (by decide) (wE_8 _ rfl) rfl aw_144 aw_145 (c_X8_errs l D y ad M (-1000000001) 1 (by decide) (by decide)) aw_143 aw_146 aw_5 (by decide +kernel) ⟨by decide, by decide⟩ rfl (Nat.le_of_ble_eq_true rfl) ⟨by decide, by decide⟩ dX8_sheet_32 ?_
    rintro r_ M1_ ⟨rfl, rfl⟩
    exact j_iret X hr hlocks dX8_sheet_35 (by unfold sp_sheet; (repeat' split) <;> first | rfl | omega | (exfalso; omega))
set_option maxRecDepth 100000 in
set_option maxHeartbeats 4000000 in
theorem c0_X8_image (l : Launch) (D : va_G) (y : wY) (ad : Nat → Nat) (M : Mem) (hz : Z1 M) : MI l D y ad yX8_image (Cond.code yX8_image cX8_image 1 (some .int)) 6 M [.ref (ad 79)] (fun r _ => sp_image = r) := by
  refine MI_of (by decide) (Nat.le_of_ble_eq_true rfl) ?_
  intro p e s m args below meth c X hr hlocks
  refine j_lv (lv1 := [(0, .ref (ad 79))]) [0] rfl ?_
  refine j_aload_n X 0 rfl rfl dX8_image_0 ?_
  refine j_aload_n X 0 rfl rfl dX8_image_1 ?_
  refine j_get X (by decide) (wE_8 _ rfl) rfl awF8 0 (by decide) aw_92 rfl (v := .ref (ad 80)) rfl dX8_image_2 ?_
  refine j_aload_n X 0 rfl rfl dX8_image_5 ?_
  refine j_get X (by decide) (wE_8 _ rfl) rfl awF8 1 (by decide) aw_93 rfl (v := .ref (ad 81)) rfl dX8_image_6 ?_
  refine j_callVV X (nn := 2) (As := [.ref (ad 80), .ref (ad 81)]) (st := []) (ci := 8) (by decide) (wE_8 _ rfl) rfl aw_553 aw_554 (c_moveAll_80_81 l D y ad M) aw_552 aw_555 aw_5 (by decide +kernel) ⟨by decide, by decide⟩ rfl (Nat.le_of_ble_eq_true rfl) ⟨by decide, by decide⟩ dX8_image_9 ?_
  rintro M_2 ⟨s_1, s_1_v⟩
  refine j_aload_n X 0 rfl rfl dX8_image_12 ?_
  refine j_iconst X (v := 1) (by decide) dX8_image_13 ?_
  refine j_put X (up M_2 79 3 1) up_o (by decide) (wE_8 _ rfl) rfl awF8 3 (by decide) (wP_8_3 _ _ rfl) tyX8 tyX8_ok nmX8 rfl (ty := .boolean) (by decide +kernel) rfl rfl (Nat.le_of_ble_eq_true rfl) aw_878 rfl dX8_image_14 ?_
  refine j_aload_n X 0 rfl rfl dX8_image_17 ?_
  refine j_dup X rfl dX8_image_18 ?_
  refine j_get X (by decide) (wE_8 _ rfl) rfl awF8 4 (by decide) aw_879 rfl (v := .int ((up M_2 79 3 1) 79 4)) rfl dX8_image_19 ?_
  refine j_eqi (v := 0) ((show _ = M_2 79 4 from by simp [up]).trans ((s_1 79 4 rfl).trans hz.2.2.2.2.2.2.2.2.2.2.2.2.1)) ?_
  refine j_iconst X (v := 1) (by decide) dX8_image_22 ?_
  refine j_iadd X dX8_image_23 ?_
  refine j_eqi (v := 1) (by decide) ?_
  refine j_put X (up (up M_2 79 3 1) 79 4 1) up_o (by decide) (wE_8 _ rfl) rfl awF8 4 (by decide) (wP_8_4 _ _ rfl) tyX8 tyX8_ok nmX8 rfl (ty := .int) (by decide +kernel) rfl rfl (Nat.le_of_ble_eq_true rfl) aw_879 rfl dX8_image_24 ?_
  refine j_aload_n X 0 rfl rfl dX8_image_27 ?_
  refine j_get X (by decide) (wE_8 _ rfl) rfl awF8 4 (by decide) aw_879 rfl (v := .int ((up (up M_2 79 3 1) 79 4 1) 79 4)) rfl dX8_image_28 ?_
  refine j_eqi (v := 1) (by simp [up]) ?_
  exact j_iret X hr hlocks dX8_image_31 (by unfold sp_image; (repeat' split) <;> first | rfl | omega | (exfalso; omega))
set_option maxRecDepth 100000 in
set_option maxHeartbeats 4000000 in
theorem c_gets_11 (l : Launch) (D : va_G) (y : wY) (ad : Nat → Nat) (M : Mem) (v : Int32) : MV l D y ad yX8_gets (Cond.code yX8_gets cX8_gets 4 none) 0 M [.ref (ad 79), .int 0, .int 0, .int v] (fun M' => sm (fun b k => b == 80 && k == 11) M M') := by
  refine MV_of (by decide) (Nat.le_of_ble_eq_true rfl) ?_
  intro p e s m args below meth c X hr hlocks
  refine j_lv (lv1 := [(0, .ref (ad 79)), (1, .int 0), (2, .int 0), (3, .int v)]) [0, 1, 2, 3] rfl ?_
  refine j_aload_n X 0 rfl rfl dX8_gets_0 ?_
  refine j_get X (by decide) (wE_8 _ rfl) rfl awF8 0 (by decide) aw_92 rfl (v := .ref (ad 80)) rfl dX8_gets_1 ?_
  refine j_bipush X (v := 11) (by decide) dX8_gets_4 ?_
  refine j_bipush X (v := 7) (by decide) dX8_gets_6 ?_
  refine j_iload_n X 1 rfl rfl dX8_gets_8 ?_
  refine j_imul X dX8_gets_9 ?_
  refine j_eqi (v := 0) (by decide) ?_
  refine j_iadd X dX8_gets_10 ?_
  refine j_eqi (v := 11) (by decide) ?_
  refine j_iload_n X 2 rfl rfl dX8_gets_11 ?_
  refine j_iadd X dX8_gets_12 ?_
  refine j_eqi (v := 11) (by decide) ?_
  refine j_iload_n X 3 rfl rfl dX8_gets_13 ?_
  refine j_iast X (by decide) rfl (by unfold vp_in; decide) dX8_gets_14 ?_
  refine j_eqM (M1 := (up M 80 11 v)) rfl ?_
  exact j_vret X hr hlocks dX8_gets_15 (sm_up sm_rf rfl)
set_option maxRecDepth 100000 in
set_option maxHeartbeats 4000000 in
theorem c_gets_12 (l : Launch) (D : va_G) (y : wY) (ad : Nat → Nat) (M : Mem) (v : Int32) : MV l D y ad yX8_gets (Cond.code yX8_gets cX8_gets 4 none) 0 M [.ref (ad 79), .int 0, .int 1, .int v] (fun M' => sm (fun b k => b == 80 && k == 12) M M') := by
  refine MV_of (by decide) (Nat.le_of_ble_eq_true rfl) ?_
  intro p e s m args below meth c X hr hlocks
  refine j_lv (lv1 := [(0, .ref (ad 79)), (1, .int 0), (2, .int 1), (3, .int v)]) [0, 1, 2, 3] rfl ?_
  refine j_aload_n X 0 rfl rfl dX8_gets_0 ?_
  refine j_get X (by decide) (wE_8 _ rfl) rfl awF8 0 (by decide) aw_92 rfl (v := .ref (ad 80)) rfl dX8_gets_1 ?_
  refine j_bipush X (v := 11) (by decide) dX8_gets_4 ?_
  refine j_bipush X (v := 7) (by decide) dX8_gets_6 ?_
  refine j_iload_n X 1 rfl rfl dX8_gets_8 ?_
  refine j_imul X dX8_gets_9 ?_
  refine j_eqi (v := 0) (by decide) ?_
  refine j_iadd X dX8_gets_10 ?_
  refine j_eqi (v := 11) (by decide) ?_
  refine j_iload_n X 2 rfl rfl dX8_gets_11 ?_
  refine j_iadd X dX8_gets_12 ?_
  refine j_eqi (v := 12) (by decide) ?_
  refine j_iload_n X 3 rfl rfl dX8_gets_13 ?_
  refine j_iast X (by decide) rfl (by unfold vp_in; decide) dX8_gets_14 ?_
  refine j_eqM (M1 := (up M 80 12 v)) rfl ?_
  exact j_vret X hr hlocks dX8_gets_15 (sm_up sm_rf rfl)
set_option maxRecDepth 100000 in
set_option maxHeartbeats 4000000 in
theorem c_gets_13 (l : Launch) (D : va_G) (y : wY) (ad : Nat → Nat) (M : Mem) (v : Int32) : MV l D y ad yX8_gets (Cond.code yX8_gets cX8_gets 4 none) 0 M [.ref (ad 79), .int 0, .int 2, .int v] (fun M' => sm (fun b k => b == 80 && k == 13) M M') := by
  refine MV_of (by decide) (Nat.le_of_ble_eq_true rfl) ?_
  intro p e s m args below meth c X hr hlocks
  refine j_lv (lv1 := [(0, .ref (ad 79)), (1, .int 0), (2, .int 2), (3, .int v)]) [0, 1, 2, 3] rfl ?_
  refine j_aload_n X 0 rfl rfl dX8_gets_0 ?_
  refine j_get X (by decide) (wE_8 _ rfl) rfl awF8 0 (by decide) aw_92 rfl (v := .ref (ad 80)) rfl dX8_gets_1 ?_
  refine j_bipush X (v := 11) (by decide) dX8_gets_4 ?_
  refine j_bipush X (v := 7) (by decide) dX8_gets_6 ?_
  refine j_iload_n X 1 rfl rfl dX8_gets_8 ?_
  refine j_imul X dX8_gets_9 ?_
  refine j_eqi (v := 0) (by decide) ?_
  refine j_iadd X dX8_gets_10 ?_
  refine j_eqi (v := 11) (by decide) ?_
  refine j_iload_n X 2 rfl rfl dX8_gets_11 ?_
  refine j_iadd X dX8_gets_12 ?_
  refine j_eqi (v := 13) (by decide) ?_
  refine j_iload_n X 3 rfl rfl dX8_gets_13 ?_
  refine j_iast X (by decide) rfl (by unfold vp_in; decide) dX8_gets_14 ?_
  refine j_eqM (M1 := (up M 80 13 v)) rfl ?_
  exact j_vret X hr hlocks dX8_gets_15 (sm_up sm_rf rfl)
set_option maxRecDepth 100000 in
set_option maxHeartbeats 4000000 in
theorem c_gets_14 (l : Launch) (D : va_G) (y : wY) (ad : Nat → Nat) (M : Mem) (v : Int32) : MV l D y ad yX8_gets (Cond.code yX8_gets cX8_gets 4 none) 0 M [.ref (ad 79), .int 0, .int 3, .int v] (fun M' => sm (fun b k => b == 80 && k == 14) M M') := by
  refine MV_of (by decide) (Nat.le_of_ble_eq_true rfl) ?_
  intro p e s m args below meth c X hr hlocks
  refine j_lv (lv1 := [(0, .ref (ad 79)), (1, .int 0), (2, .int 3), (3, .int v)]) [0, 1, 2, 3] rfl ?_
  refine j_aload_n X 0 rfl rfl dX8_gets_0 ?_
  refine j_get X (by decide) (wE_8 _ rfl) rfl awF8 0 (by decide) aw_92 rfl (v := .ref (ad 80)) rfl dX8_gets_1 ?_
  refine j_bipush X (v := 11) (by decide) dX8_gets_4 ?_
  refine j_bipush X (v := 7) (by decide) dX8_gets_6 ?_
  refine j_iload_n X 1 rfl rfl dX8_gets_8 ?_
  refine j_imul X dX8_gets_9 ?_
  refine j_eqi (v := 0) (by decide) ?_
  refine j_iadd X dX8_gets_10 ?_
  refine j_eqi (v := 11) (by decide) ?_
  refine j_iload_n X 2 rfl rfl dX8_gets_11 ?_
  refine j_iadd X dX8_gets_12 ?_
  refine j_eqi (v := 14) (by decide) ?_
  refine j_iload_n X 3 rfl rfl dX8_gets_13 ?_
  refine j_iast X (by decide) rfl (by unfold vp_in; decide) dX8_gets_14 ?_
  refine j_eqM (M1 := (up M 80 14 v)) rfl ?_
  exact j_vret X hr hlocks dX8_gets_15 (sm_up sm_rf rfl)
set_option maxRecDepth 100000 in
set_option maxHeartbeats 4000000 in
theorem c_gets_15 (l : Launch) (D : va_G) (y : wY) (ad : Nat → Nat) (M : Mem) (v : Int32) : MV l D y ad yX8_gets (Cond.code yX8_gets cX8_gets 4 none) 0 M [.ref (ad 79), .int 0, .int 4, .int v] (fun M' => sm (fun b k => b == 80 && k == 15) M M') := by
  refine MV_of (by decide) (Nat.le_of_ble_eq_true rfl) ?_
  intro p e s m args below meth c X hr hlocks
  refine j_lv (lv1 := [(0, .ref (ad 79)), (1, .int 0), (2, .int 4), (3, .int v)]) [0, 1, 2, 3] rfl ?_
  refine j_aload_n X 0 rfl rfl dX8_gets_0 ?_
  refine j_get X (by decide) (wE_8 _ rfl) rfl awF8 0 (by decide) aw_92 rfl (v := .ref (ad 80)) rfl dX8_gets_1 ?_
  refine j_bipush X (v := 11) (by decide) dX8_gets_4 ?_
  refine j_bipush X (v := 7) (by decide) dX8_gets_6 ?_
  refine j_iload_n X 1 rfl rfl dX8_gets_8 ?_
  refine j_imul X dX8_gets_9 ?_
  refine j_eqi (v := 0) (by decide) ?_
  refine j_iadd X dX8_gets_10 ?_
  refine j_eqi (v := 11) (by decide) ?_
  refine j_iload_n X 2 rfl rfl dX8_gets_11 ?_
  refine j_iadd X dX8_gets_12 ?_
  refine j_eqi (v := 15) (by decide) ?_
  refine j_iload_n X 3 rfl rfl dX8_gets_13 ?_
  refine j_iast X (by decide) rfl (by unfold vp_in; decide) dX8_gets_14 ?_
  refine j_eqM (M1 := (up M 80 15 v)) rfl ?_
  exact j_vret X hr hlocks dX8_gets_15 (sm_up sm_rf rfl)
set_option maxRecDepth 100000 in
set_option maxHeartbeats 4000000 in
theorem c_gets_16 (l : Launch) (D : va_G) (y : wY) (ad : Nat → Nat) (M : Mem) (v : Int32) : MV l D y ad yX8_gets (Cond.code yX8_gets cX8_gets 4 none) 0 M [.ref (ad 79), .int 0, .int 5, .int v] (fun M' => sm (fun b k => b == 80 && k == 16) M M') := by
  refine MV_of (by decide) (Nat.le_of_ble_eq_true rfl) ?_
  intro p e s m args below meth c X hr hlocks
  refine j_lv (lv1 := [(0, .ref (ad 79)), (1, .int 0), (2, .int 5), (3, .int v)]) [0, 1, 2, 3] rfl ?_
  refine j_aload_n X 0 rfl rfl dX8_gets_0 ?_
  refine j_get X (by decide) (wE_8 _ rfl) rfl awF8 0 (by decide) aw_92 rfl (v := .ref (ad 80)) rfl dX8_gets_1 ?_
  refine j_bipush X (v := 11) (by decide) dX8_gets_4 ?_
  refine j_bipush X (v := 7) (by decide) dX8_gets_6 ?_
  refine j_iload_n X 1 rfl rfl dX8_gets_8 ?_
  refine j_imul X dX8_gets_9 ?_
  refine j_eqi (v := 0) (by decide) ?_
  refine j_iadd X dX8_gets_10 ?_
  refine j_eqi (v := 11) (by decide) ?_
  refine j_iload_n X 2 rfl rfl dX8_gets_11 ?_
  refine j_iadd X dX8_gets_12 ?_
  refine j_eqi (v := 16) (by decide) ?_
  refine j_iload_n X 3 rfl rfl dX8_gets_13 ?_
  refine j_iast X (by decide) rfl (by unfold vp_in; decide) dX8_gets_14 ?_
  refine j_eqM (M1 := (up M 80 16 v)) rfl ?_
  exact j_vret X hr hlocks dX8_gets_15 (sm_up sm_rf rfl)
set_option maxRecDepth 100000 in
set_option maxHeartbeats 4000000 in
theorem c_gets_17 (l : Launch) (D : va_G) (y : wY) (ad : Nat → Nat) (M : Mem) (v : Int32) : MV l D y ad yX8_gets (Cond.code yX8_gets cX8_gets 4 none) 0 M [.ref (ad 79), .int 0, .int 6, .int v] (fun M' => sm (fun b k => b == 80 && k == 17) M M') := by
  refine MV_of (by decide) (Nat.le_of_ble_eq_true rfl) ?_
  intro p e s m args below meth c X hr hlocks
  refine j_lv (lv1 := [(0, .ref (ad 79)), (1, .int 0), (2, .int 6), (3, .int v)]) [0, 1, 2, 3] rfl ?_
  refine j_aload_n X 0 rfl rfl dX8_gets_0 ?_
  refine j_get X (by decide) (wE_8 _ rfl) rfl awF8 0 (by decide) aw_92 rfl (v := .ref (ad 80)) rfl dX8_gets_1 ?_
  refine j_bipush X (v := 11) (by decide) dX8_gets_4 ?_
  refine j_bipush X (v := 7) (by decide) dX8_gets_6 ?_
  refine j_iload_n X 1 rfl rfl dX8_gets_8 ?_
  refine j_imul X dX8_gets_9 ?_
  refine j_eqi (v := 0) (by decide) ?_
  refine j_iadd X dX8_gets_10 ?_
  refine j_eqi (v := 11) (by decide) ?_
  refine j_iload_n X 2 rfl rfl dX8_gets_11 ?_
  refine j_iadd X dX8_gets_12 ?_
  refine j_eqi (v := 17) (by decide) ?_
  refine j_iload_n X 3 rfl rfl dX8_gets_13 ?_
  refine j_iast X (by decide) rfl (by unfold vp_in; decide) dX8_gets_14 ?_
  refine j_eqM (M1 := (up M 80 17 v)) rfl ?_
  exact j_vret X hr hlocks dX8_gets_15 (sm_up sm_rf rfl)
set_option maxRecDepth 100000 in
set_option maxHeartbeats 4000000 in
theorem c0_X8_quarrel (l : Launch) (D : va_G) (y : wY) (ad : Nat → Nat) (M : Mem) (hz : Z1 M) (km a ed o : Int32) : MI l D y ad yX8_quarrel (Cond.code yX8_quarrel cX8_quarrel 6 (some .int)) 6 M [.ref (ad 79), .int km, .int a, .int ed, .int o] (fun r _ => sp_quarrel km a ed o = r) := by
  refine MI_of (by decide) (Nat.le_of_ble_eq_true rfl) ?_
  intro p e s m args below meth c X hr hlocks
  refine j_lv (lv1 := [(0, .ref (ad 79)), (1, .int km), (2, .int a), (3, .int ed), (4, .int o)]) [0, 1, 2, 3, 4] rfl ?_
  refine j_iload_n X 1 rfl rfl dX8_quarrel_0 ?_
  refine j_iconst X (v := 0) (by decide) dX8_quarrel_1 ?_
  refine j_bipush X (v := 69) (by decide) dX8_quarrel_2 ?_
  refine j_callSI X (nn := 3) (As := [.int km, .int 0, .int 69]) (st := []) aw_134 (c_X8_in l D y ad M km 0 69 0 69 (by decide) (by decide)) aw_133 aw_135 aw_5 (by decide +kernel) ⟨by decide, by decide⟩ rfl (Nat.le_of_ble_eq_true rfl) ⟨by decide, by decide⟩ dX8_quarrel_4 ?_
  rintro r_ M1_ (⟨rfl, rfl, h_1⟩ | ⟨rfl, rfl, h_1⟩)
  · refine j_if_eq X 44 (by decide) dX8_quarrel_7 (fun c_2 => False.elim (by revert c_2; decide)) (fun c_2 => ?_)
    refine j_iload_n X 2 rfl rfl dX8_quarrel_10 ?_
    refine j_callSI X (nn := 1) (As := [.int a]) (st := []) aw_137 (c_X8_isArea l D y ad M a) aw_136 aw_138 aw_5 (by decide +kernel) ⟨by decide, by decide⟩ rfl (Nat.le_of_ble_eq_true rfl) ⟨by decide, by decide⟩ dX8_quarrel_11 ?_
    rintro r_ M1_ (⟨rfl, rfl, h_3⟩ | ⟨rfl, rfl, h_3⟩)
    · refine j_if_eq X 44 (by decide) dX8_quarrel_14 (fun c_4 => False.elim (by revert c_4; decide)) (fun c_4 => ?_)
      refine j_iload_n X 3 rfl rfl dX8_quarrel_17 ?_
      refine j_iconst X (v := 0) (by decide) dX8_quarrel_18 ?_
      refine j_bipush X (v := 99) (by decide) dX8_quarrel_19 ?_
      refine j_callSI X (nn := 3) (As := [.int ed, .int 0, .int 99]) (st := []) aw_134 (c_X8_in l D y ad M ed 0 99 0 99 (by decide) (by decide)) aw_133 aw_135 aw_5 (by decide +kernel) ⟨by decide, by decide⟩ rfl (Nat.le_of_ble_eq_true rfl) ⟨by decide, by decide⟩ dX8_quarrel_21 ?_
      rintro r_ M1_ (⟨rfl, rfl, h_5⟩ | ⟨rfl, rfl, h_5⟩)
      · refine j_if_eq X 44 (by decide) dX8_quarrel_24 (fun c_6 => False.elim (by revert c_6; decide)) (fun c_6 => ?_)
        refine j_iload X 4 rfl dX8_quarrel_27 ?_
        refine j_iconst X (v := (-1)) (by decide) dX8_quarrel_29 ?_
        refine j_aload_n X 0 rfl rfl dX8_quarrel_30 ?_
        refine j_get X (by decide) (wE_8 _ rfl) rfl awF8 0 (by decide) aw_92 rfl (v := .ref (ad 80)) rfl dX8_quarrel_31 ?_
        refine j_iconst X (v := 2) (by decide) dX8_quarrel_34 ?_
        refine j_iald X (by decide) rfl (by unfold vp_in; decide) dX8_quarrel_35 ?_
        refine j_eqi (v := 0) hz.2.2.1 ?_
        refine j_iconst X (v := 1) (by decide) dX8_quarrel_36 ?_
        refine j_isub X dX8_quarrel_37 ?_
        refine j_eqi (v := (-1)) (by decide) ?_
        refine j_callSI X (nn := 3) (As := [.int o, .int (-1), .int (-1)]) (st := []) aw_134 (c_X8_in l D y ad M o (-1) (-1) (-1) (-1) (by decide) (by decide)) aw_133 aw_135 aw_5 (by decide +kernel) ⟨by decide, by decide⟩ rfl (Nat.le_of_ble_eq_true rfl) ⟨by decide, by decide⟩ dX8_quarrel_38 ?_
        rintro r_ M1_ (⟨rfl, rfl, h_7⟩ | ⟨rfl, rfl, h_7⟩)
        · refine j_if_ne X 51 (by decide) dX8_quarrel_41 (fun c_8 => ?_) (fun c_8 => False.elim (by revert c_8; decide))
          refine j_aload_n X 0 rfl rfl dX8_quarrel_51 ?_
          refine j_get X (by decide) (wE_8 _ rfl) rfl awF8 0 (by decide) aw_92 rfl (v := .ref (ad 80)) rfl dX8_quarrel_52 ?_
          refine j_iconst X (v := 2) (by decide) dX8_quarrel_55 ?_
          refine j_iald X (by decide) rfl (by unfold vp_in; decide) dX8_quarrel_56 ?_
          refine j_eqi (v := 0) hz.2.2.1 ?_
          refine j_bipush X (v := 9) (by decide) dX8_quarrel_57 ?_
          refine j_icmp_ne X 69 (by decide) dX8_quarrel_59 (fun c_9 => ?_) (fun c_9 => False.elim (by revert c_9; decide))
          refine j_aload_n X 0 rfl rfl dX8_quarrel_69 ?_
          refine j_get X (by decide) (wE_8 _ rfl) rfl awF8 0 (by decide) aw_92 rfl (v := .ref (ad 80)) rfl dX8_quarrel_70 ?_
          refine j_iconst X (v := 2) (by decide) dX8_quarrel_73 ?_
          refine j_iald X (by decide) rfl (by unfold vp_in; decide) dX8_quarrel_74 ?_
          refine j_eqi (v := 0) hz.2.2.1 ?_
          refine j_istore X [(5, .int 0), (0, .ref (ad 79)), (1, .int km), (2, .int a), (3, .int ed), (4, .int o)] (by decide) rfl dX8_quarrel_75 ?_
          refine j_aload_n X 1 rfl rfl dX8_quarrel_77 ?_
          refine j_iload X 0 rfl dX8_quarrel_78 ?_
          refine j_iconst X (v := 0) (by decide) dX8_quarrel_80 ?_
          refine j_iload_n X 2 rfl rfl dX8_quarrel_81 ?_
          refine j_bipush X (v := 10) (by decide) dX8_quarrel_82 ?_
          refine j_idiv X (by decide) dX8_quarrel_84 ?_
          refine j_callVV X (nn := 3) (As := [.int 0, .int 0, .int (km / 10)]) (st := []) (ci := 8) (by decide) (wE_8 _ rfl) rfl aw_183 aw_184 (c_gets_11 l D y ad M (km / 10)) aw_182 aw_185 aw_5 (by decide +kernel) ⟨by decide, by decide⟩ rfl (Nat.le_of_ble_eq_true rfl) ⟨by decide, by decide⟩ dX8_quarrel_85 ?_
          rintro M_11 s_10
          refine j_aload_n X 1 rfl rfl dX8_quarrel_88 ?_
          refine j_iload X 0 rfl dX8_quarrel_89 ?_
          refine j_iconst X (v := 1) (by decide) dX8_quarrel_91 ?_
          refine j_iload_n X 2 rfl rfl dX8_quarrel_92 ?_
          refine j_bipush X (v := 10) (by decide) dX8_quarrel_93 ?_
          refine j_irem X (by decide) dX8_quarrel_95 ?_
          refine j_callVV X (nn := 3) (As := [.int 0, .int 1, .int (km - km / 10 * 10)]) (st := []) (ci := 8) (by decide) (wE_8 _ rfl) rfl aw_183 aw_184 (c_gets_12 l D y ad M_11 (km - km / 10 * 10)) aw_182 aw_185 aw_5 (by decide +kernel) ⟨by decide, by decide⟩ rfl (Nat.le_of_ble_eq_true rfl) ⟨by decide, by decide⟩ dX8_quarrel_96 ?_
          rintro M_13 s_12
          refine j_aload_n X 1 rfl rfl dX8_quarrel_99 ?_
          refine j_iload X 0 rfl dX8_quarrel_100 ?_
          refine j_iconst X (v := 2) (by decide) dX8_quarrel_102 ?_
          refine j_iload_n X 3 rfl rfl dX8_quarrel_103 ?_
          refine j_callVV X (nn := 3) (As := [.int 0, .int 2, .int a]) (st := []) (ci := 8) (by decide) (wE_8 _ rfl) rfl aw_183 aw_184 (c_gets_13 l D y ad M_13 a) aw_182 aw_185 aw_5 (by decide +kernel) ⟨by decide, by decide⟩ rfl (Nat.le_of_ble_eq_true rfl) ⟨by decide, by decide⟩ dX8_quarrel_104 ?_
          rintro M_15 s_14
          refine j_aload_n X 1 rfl rfl dX8_quarrel_107 ?_
          refine j_iload X 0 rfl dX8_quarrel_108 ?_
          refine j_iconst X (v := 3) (by decide) dX8_quarrel_110 ?_
          refine j_iload_n X 4 rfl rfl dX8_quarrel_111 ?_
          refine j_callVV X (nn := 3) (As := [.int 0, .int 3, .int ed]) (st := []) (ci := 8) (by decide) (wE_8 _ rfl) rfl aw_183 aw_184 (c_gets_14 l D y ad M_15 ed) aw_182 aw_185 aw_5 (by decide +kernel) ⟨by decide, by decide⟩ rfl (Nat.le_of_ble_eq_true rfl) ⟨by decide, by decide⟩ dX8_quarrel_112 ?_
          rintro M_17 s_16
          refine j_aload_n X 1 rfl rfl dX8_quarrel_115 ?_
          refine j_iload X 0 rfl dX8_quarrel_116 ?_
          refine j_iconst X (v := 4) (by decide) dX8_quarrel_118 ?_
          refine j_iload X 5 rfl dX8_quarrel_119 ?_
          refine j_callVV X (nn := 3) (As := [.int 0, .int 4, .int o]) (st := []) (ci := 8) (by decide) (wE_8 _ rfl) rfl aw_183 aw_184 (c_gets_15 l D y ad M_17 o) aw_182 aw_185 aw_5 (by decide +kernel) ⟨by decide, by decide⟩ rfl (Nat.le_of_ble_eq_true rfl) ⟨by decide, by decide⟩ dX8_quarrel_121 ?_
          rintro M_19 s_18
          refine j_aload_n X 1 rfl rfl dX8_quarrel_124 ?_
          refine j_iload X 0 rfl dX8_quarrel_125 ?_
          refine j_iconst X (v := 5) (by decide) dX8_quarrel_127 ?_
          refine j_iconst X (v := 0) (by decide) dX8_quarrel_128 ?_
          refine j_callVV X (nn := 3) (As := [.int 0, .int 5, .int 0]) (st := []) (ci := 8) (by decide) (wE_8 _ rfl) rfl aw_183 aw_184 (c_gets_16 l D y ad M_19 0) aw_182 aw_185 aw_5 (by decide +kernel) ⟨by decide, by decide⟩ rfl (Nat.le_of_ble_eq_true rfl) ⟨by decide, by decide⟩ dX8_quarrel_129 ?_
          rintro M_21 s_20
          refine j_aload_n X 1 rfl rfl dX8_quarrel_132 ?_
          refine j_iload X 0 rfl dX8_quarrel_133 ?_
          refine j_bipush X (v := 6) (by decide) dX8_quarrel_135 ?_
          refine j_iconst X (v := 0) (by decide) dX8_quarrel_137 ?_
          refine j_callVV X (nn := 3) (As := [.int 0, .int 6, .int 0]) (st := []) (ci := 8) (by decide) (wE_8 _ rfl) rfl aw_183 aw_184 (c_gets_17 l D y ad M_21 0) aw_182 aw_185 aw_5 (by decide +kernel) ⟨by decide, by decide⟩ rfl (Nat.le_of_ble_eq_true rfl) ⟨by decide, by decide⟩ dX8_quarrel_138 ?_
          rintro M_23 s_22
          refine j_aload_n X 1 rfl rfl dX8_quarrel_141 ?_
          refine j_get X (by decide) (wE_8 _ rfl) rfl awF8 0 (by decide) aw_92 rfl (v := .ref (ad 80)) rfl dX8_quarrel_142 ?_
          refine j_iconst X (v := 2) (by decide) dX8_quarrel_145 ?_
          refine j_dup2 X rfl rfl dX8_quarrel_146 ?_
          refine j_iald X (by decide) rfl (by unfold vp_in; decide) dX8_quarrel_147 ?_
          refine j_eqi (v := 0) ((s_22 80 2 rfl).trans ((s_20 80 2 rfl).trans ((s_18 80 2 rfl).trans ((s_16 80 2 rfl).trans ((s_14 80 2 rfl).trans ((s_12 80 2 rfl).trans ((s_10 80 2 rfl).trans hz.2.2.1))))))) ?_
          refine j_iconst X (v := 1) (by decide) dX8_quarrel_148 ?_
          refine j_iadd X dX8_quarrel_149 ?_
          refine j_eqi (v := 1) (by decide) ?_
          refine j_iast X (by decide) rfl (by unfold vp_in; decide) dX8_quarrel_150 ?_
          refine j_eqM (M1 := (up M_23 80 2 1)) rfl ?_
          refine j_iload X 0 rfl dX8_quarrel_151 ?_
          exact j_iret X hr hlocks dX8_quarrel_153 (by unfold sp_quarrel; (repeat' split) <;> first | rfl | omega | (exfalso; omega))
        · refine j_if_ne X 51 (by decide) dX8_quarrel_41 (fun c_24 => False.elim (by revert c_24; decide)) (fun c_24 => ?_)
          refine j_aload_n X 0 rfl rfl dX8_quarrel_44 ?_
          refine j_ldc X (v := (-1000000001)) aw_132 dX8_quarrel_45 ?_
          refine j_callVI X (nn := 1) (As := [.int (-1000000001)]) (st := []) (ci := 8) (by decide) (wE_8 _ rfl) rfl aw_144 aw_145 (c_X8_errs l D y ad M (-1000000001) 1 (by decide) (by decide)) aw_143 aw_146 aw_5 (by decide +kernel) ⟨by decide, by decide⟩ rfl (Nat.le_of_ble_eq_true rfl) ⟨by decide, by decide⟩ dX8_quarrel_47 ?_
          rintro r_ M1_ ⟨rfl, rfl⟩
          exact j_iret X hr hlocks dX8_quarrel_50 (by unfold sp_quarrel; (repeat' split) <;> first | rfl | omega | (exfalso; omega))
      · refine j_if_eq X 44 (by decide) dX8_quarrel_24 (fun c_25 => ?_) (fun c_25 => False.elim (by revert c_25; decide))
        refine j_aload_n X 0 rfl rfl dX8_quarrel_44 ?_
        refine j_ldc X (v := (-1000000001)) aw_132 dX8_quarrel_45 ?_
        refine j_callVI X (nn := 1) (As := [.int (-1000000001)]) (st := []) (ci := 8) (by decide) (wE_8 _ rfl) rfl aw_144 aw_145 (c_X8_errs l D y ad M (-1000000001) 1 (by decide) (by decide)) aw_143 aw_146 aw_5 (by decide +kernel) ⟨by decide, by decide⟩ rfl (Nat.le_of_ble_eq_true rfl) ⟨by decide, by decide⟩ dX8_quarrel_47 ?_
        rintro r_ M1_ ⟨rfl, rfl⟩
        exact j_iret X hr hlocks dX8_quarrel_50 (by unfold sp_quarrel; (repeat' split) <;> first | rfl | omega | (exfalso; omega))
    · refine j_if_eq X 44 (by decide) dX8_quarrel_14 (fun c_26 => ?_) (fun c_26 => False.elim (by revert c_26; decide))
      refine j_aload_n X 0 rfl rfl dX8_quarrel_44 ?_
      refine j_ldc X (v := (-1000000001)) aw_132 dX8_quarrel_45 ?_
      refine j_callVI X (nn := 1) (As := [.int (-1000000001)]) (st := []) (ci := 8) (by decide) (wE_8 _ rfl) rfl aw_144 aw_145 (c_X8_errs l D y ad M (-1000000001) 1 (by decide) (by decide)) aw_143 aw_146 aw_5 (by decide +kernel) ⟨by decide, by decide⟩ rfl (Nat.le_of_ble_eq_true rfl) ⟨by decide, by decide⟩ dX8_quarrel_47 ?_
      rintro r_ M1_ ⟨rfl, rfl⟩
      exact j_iret X hr hlocks dX8_quarrel_50 (by unfold sp_quarrel; (repeat' split) <;> first | rfl | omega | (exfalso; omega))
  · refine j_if_eq X 44 (by decide) dX8_quarrel_7 (fun c_27 => ?_) (fun c_27 => False.elim (by revert c_27; decide))
    refine j_aload_n X 0 rfl rfl dX8_quarrel_44 ?_
    refine j_ldc X (v := (-1000000001)) aw_132 dX8_quarrel_45 ?_
    refine j_callVI X (nn := 1) (As := [.int (-1000000001)]) (st := []) (ci := 8) (by decide) (wE_8 _ rfl) rfl aw_144 aw_145 (c_X8_errs l D y ad M (-1000000001) 1 (by decide) (by decide)) aw_143 aw_146 aw_5 (by decide +kernel) ⟨by decide, by decide⟩ rfl (Nat.le_of_ble_eq_true rfl) ⟨by decide, by decide⟩ dX8_quarrel_47 ?_
    rintro r_ M1_ ⟨rfl, rfl⟩
    exact j_iret X hr hlocks dX8_quarrel_50 (by unfold sp_quarrel; (repeat' split) <;> first | rfl | omega | (exfalso; omega))
theorem sp_feed_n {w : Int64} {N : Nat} (h1 : 1 ≤ N) (h2 : N ≤ 8) : sp_feed w (nI N) = nI N := by
  unfold sp_feed
  rw [nI_ti h2 (by decide), if_pos (by omega)]
set_option maxRecDepth 100000 in
set_option maxHeartbeats 4000000 in
theorem c0_X8_feed (l : Launch) (D : va_G) (y : wY) (ad : Nat → Nat) (M : Mem) (hz : Z1 M) (w : Int64) (n : Int32) : MI l D y ad yX8_feed (Cond.code yX8_feed cX8_feed 5 (some .int)) 6 M [.ref (ad 79), .long w, .int n] (fun r _ => sp_feed w n = r) := by
  refine MI_of (by decide) (Nat.le_of_ble_eq_true rfl) ?_
  intro p e s m args below meth c X hr hlocks
  refine j_lv (lv1 := [(0, .ref (ad 79)), (1, .long w), (3, .int n)]) [0, 1, 2] rfl ?_
  refine j_iload_n X 2 rfl rfl dX8_feed_0 ?_
  refine j_iconst X (v := 1) (by decide) dX8_feed_1 ?_
  refine j_bipush X (v := 8) (by decide) dX8_feed_2 ?_
  refine j_callSI X (nn := 3) (As := [.int n, .int 1, .int 8]) (st := []) aw_134 (c_X8_in l D y ad M n 1 8 1 8 (by decide) (by decide)) aw_133 aw_135 aw_5 (by decide +kernel) ⟨by decide, by decide⟩ rfl (Nat.le_of_ble_eq_true rfl) ⟨by decide, by decide⟩ dX8_feed_4 ?_
  rintro r_ M1_ (⟨rfl, rfl, h_1⟩ | ⟨rfl, rfl, h_1⟩)
  · refine j_if_ne X 17 (by decide) dX8_feed_7 (fun c_2 => ?_) (fun c_2 => False.elim (by revert c_2; decide))
    obtain ⟨N, hN, rfl⟩ := nI_oft (x := n) (n := 8) (by omega) (by omega) (by decide)
    rw [nI_ti hN (by decide)] at h_1
    refine j_aload_n X 0 rfl rfl dX8_feed_17 ?_
    refine j_get X (by decide) (wE_8 _ rfl) rfl awF8 0 (by decide) aw_92 rfl (v := .ref (ad 80)) rfl dX8_feed_18 ?_
    refine j_iconst X (v := 3) (by decide) dX8_feed_21 ?_
    refine j_iald X (by decide) rfl (by unfold vp_in; decide) dX8_feed_22 ?_
    refine j_eqi (v := 0) hz.2.2.2.1 ?_
    refine j_iload_n X 2 rfl rfl dX8_feed_23 ?_
    refine j_iadd X dX8_feed_24 ?_
    refine j_eqi (v := (nI N)) (Int32.zero_add _) ?_
    refine j_bipush X (v := 50) (by decide) dX8_feed_25 ?_
    refine j_icmp_le X 37 (by decide) dX8_feed_27 (fun c_3 => ?_) (fun c_3 => False.elim (c_3 (show nI N ≤ nI 50 from nI_le (by omega) (by decide))))
    refine j_iconst X (v := 0) (by decide) dX8_feed_37 ?_
    refine j_istore X [(4, .int 0), (0, .ref (ad 79)), (1, .long w), (3, .int (nI N))] (by decide) rfl dX8_feed_38 ?_
    have loop4 : ∀ (n_4 i_4 : Nat) (M4 : Mem), i_4 ≤ N → N - i_4 < n_4 → sm (fun b k => b == 80 && (k == 3 || decide (74 ≤ k))) M M4 → (M4 80 3 = nI i_4) → J p l e (rmN 6) s m args below meth c 0 0 (QI (fun r _ => sp_feed w (nI N) = r) D y ad M s args below) D y ad (va_A (PL y ad M) s.heap.size) 5 M4 40 [(4, .int (nI i_4)), (0, .ref (ad 79)), (1, .long w), (3, .int (nI N))] [] := by
      intro n_4
      induction n_4 with
      | zero => intro i_4 M4 h1 h2; exact absurd h2 (by omega)
      | succ n_4 ih4 =>
        intro i_4 M4 h1i_4 h2i_4 hs4 hvi_4
        refine j_iload X 0 rfl dX8_feed_40 ?_
        refine j_iload_n X 3 rfl rfl dX8_feed_42 ?_
        refine j_icmp_ge X 88 (by decide) dX8_feed_43 (fun c_5 => ?_) (fun c_5 => ?_)
        · have c_5 := (nI_leI (by omega) (by omega)).mp (show nI (N) ≤ nI i_4 from c_5)
          refine j_aload_n X 1 rfl rfl dX8_feed_88 ?_
          refine j_get X (by decide) (wE_8 _ rfl) rfl awF8 0 (by decide) aw_92 rfl (v := .ref (ad 80)) rfl dX8_feed_89 ?_
          refine j_iconst X (v := 3) (by decide) dX8_feed_92 ?_
          refine j_iald X (by decide) rfl (by unfold vp_in; decide) dX8_feed_93 ?_
          refine j_eqi (v := (nI i_4)) hvi_4 ?_
          exact j_iret X hr hlocks dX8_feed_94 (by rw [sp_feed_n (by omega) (by omega), show N = i_4 by omega])
        · have c_5 : i_4 < N := by
            rcases Nat.lt_or_ge i_4 (N) with g | g
            · exact g
            · exact absurd (show nI (N) ≤ nI i_4 from nI_le g (by omega)) c_5
          refine j_aload_n X 1 rfl rfl dX8_feed_46 ?_
          refine j_get X (by decide) (wE_8 _ rfl) rfl awF8 0 (by decide) aw_92 rfl (v := .ref (ad 80)) rfl dX8_feed_47 ?_
          refine j_bipush X (v := 74) (by decide) dX8_feed_50 ?_
          refine j_aload_n X 1 rfl rfl dX8_feed_52 ?_
          refine j_get X (by decide) (wE_8 _ rfl) rfl awF8 0 (by decide) aw_92 rfl (v := .ref (ad 80)) rfl dX8_feed_53 ?_
          refine j_iconst X (v := 3) (by decide) dX8_feed_56 ?_
          refine j_iald X (by decide) rfl (by unfold vp_in; decide) dX8_feed_57 ?_
          refine j_eqi (v := (nI i_4)) hvi_4 ?_
          refine j_iadd X dX8_feed_58 ?_
          refine j_lload_n X 2 rfl rfl dX8_feed_59 ?_
          refine j_bipush X (v := 8) (by decide) dX8_feed_60 ?_
          refine j_iload X 0 rfl dX8_feed_62 ?_
          refine j_imul X dX8_feed_64 ?_
          refine j_lshr X dX8_feed_65 ?_
          refine j_ldc2 X (v := 255) aw_309 dX8_feed_66 ?_
          refine j_land X dX8_feed_69 ?_
          refine j_l2i X dX8_feed_70 ?_
          refine j_iast X (by decide) rfl (by rw [show (74 : Int32) + nI i_4 = nI (74 + i_4) from nI_add 74 i_4]; exact (show vp_in (nI (74 + i_4)) 244 from vp_in_nI (by omega) (by decide))) dX8_feed_71 ?_
          refine j_eqM (M1 := (up M4 80 (74 + i_4) (((w >>> ((8 * (nI i_4)).toInt64 &&& 63)) &&& 255).toInt32))) (by rw [show (74 : Int32) + nI i_4 = nI (74 + i_4) from nI_add 74 i_4, nI_clamp (by omega)]) ?_
          refine j_aload_n X 1 rfl rfl dX8_feed_72 ?_
          refine j_get X (by decide) (wE_8 _ rfl) rfl awF8 0 (by decide) aw_92 rfl (v := .ref (ad 80)) rfl dX8_feed_73 ?_
          refine j_iconst X (v := 3) (by decide) dX8_feed_76 ?_
          refine j_dup2 X rfl rfl dX8_feed_77 ?_
          refine j_iald X (by decide) rfl (by unfold vp_in; decide) dX8_feed_78 ?_
          refine j_eqi (v := (up M4 80 (74 + i_4) (((w >>> ((8 * (nI i_4)).toInt64 &&& 63)) &&& 255).toInt32)) 80 3) rfl ?_
          refine j_iconst X (v := 1) (by decide) dX8_feed_79 ?_
          refine j_iadd X dX8_feed_80 ?_
          refine j_iast X (by decide) rfl (by unfold vp_in; decide) dX8_feed_81 ?_
          refine j_eqM (M1 := (up (up M4 80 (74 + i_4) (((w >>> ((8 * (nI i_4)).toInt64 &&& 63)) &&& 255).toInt32)) 80 3 (((up M4 80 (74 + i_4) (((w >>> ((8 * (nI i_4)).toInt64 &&& 63)) &&& 255).toInt32)) 80 3) + 1))) rfl ?_
          refine j_iinc X (v := (nI (i_4 + 1))) 0 [(4, .int (nI (i_4 + 1))), (0, .ref (ad 79)), (1, .long w), (3, .int (nI N))] rfl (show nI i_4 + Int32.ofInt 1 = _ from nI_1 i_4) (by decide) rfl dX8_feed_82 ?_
          refine j_goto X 40 (by decide) dX8_feed_85 ?_
          refine j_lv (lv1 := [(4, .int (nI (i_4 + 1))), (0, .ref (ad 79)), (1, .long w), (3, .int (nI N))]) [0, 1, 2, 3] rfl ?_
          exact ih4 (i_4 + 1) _ (by omega) (by omega) (sm_up (sm_up hs4 (by simp)) rfl) (up_same.trans (by rw [up_slot _ (by omega), hvi_4, nI_1]))
    refine j_lv (lv1 := [(4, .int (nI 0)), (0, .ref (ad 79)), (1, .long w), (3, .int (nI N))]) [0, 1, 2, 3] rfl ?_
    exact loop4 (N + 1) 0 _ (by omega) (by omega) sm_rf hz.2.2.2.1
  · refine j_if_ne X 17 (by decide) dX8_feed_7 (fun c_6 => False.elim (by revert c_6; decide)) (fun c_6 => ?_)
    refine j_aload_n X 0 rfl rfl dX8_feed_10 ?_
    refine j_ldc X (v := (-1000000001)) aw_132 dX8_feed_11 ?_
    refine j_callVI X (nn := 1) (As := [.int (-1000000001)]) (st := []) (ci := 8) (by decide) (wE_8 _ rfl) rfl aw_144 aw_145 (c_X8_errs l D y ad M (-1000000001) 1 (by decide) (by decide)) aw_143 aw_146 aw_5 (by decide +kernel) ⟨by decide, by decide⟩ rfl (Nat.le_of_ble_eq_true rfl) ⟨by decide, by decide⟩ dX8_feed_13 ?_
    rintro r_ M1_ ⟨rfl, rfl⟩
    exact j_iret X hr hlocks dX8_feed_16 (by unfold sp_feed; (repeat' split) <;> first | rfl | omega | (exfalso; omega))
set_option maxRecDepth 100000 in
set_option maxHeartbeats 4000000 in
theorem c_byteAt0 (l : Launch) (D : va_G) (y : wY) (ad : Nat → Nat) (M : Mem) (he : M 79 8 = 0) : MI l D y ad yX8_byteAt (Cond.code yX8_byteAt cX8_byteAt 2 (some .int)) 0 M [.ref (ad 79), .int 0] (fun r M' => (-1) = r ∧ M = M') := by
  refine MI_of (by decide) (Nat.le_of_ble_eq_true rfl) ?_
  intro p e s m args below meth c X hr hlocks
  refine j_lv (lv1 := [(0, .ref (ad 79)), (1, .int 0)]) [0, 1] rfl ?_
  refine j_iload_n X 1 rfl rfl dX8_byteAt_0 ?_
  refine j_aload_n X 0 rfl rfl dX8_byteAt_1 ?_
  refine j_get X (by decide) (wE_8 _ rfl) rfl awF8 8 (by decide) aw_379 rfl (v := .int (M 79 8)) rfl dX8_byteAt_2 ?_
  refine j_eqi (v := 0) he ?_
  refine j_icmp_ge X 20 (by decide) dX8_byteAt_5 (fun c_1 => ?_) (fun c_1 => False.elim (by revert c_1; decide))
  refine j_iconst X (v := (-1)) (by decide) dX8_byteAt_20 ?_
  exact j_iret X hr hlocks dX8_byteAt_21 ⟨rfl, rfl⟩
set_option maxRecDepth 100000 in
set_option maxHeartbeats 4000000 in
theorem c_X8_isDigit0 (l : Launch) (D : va_G) (y : wY) (ad : Nat → Nat) (M : Mem)  : MI l D y ad yX8_isDigit (Cond.code yX8_isDigit cX8_isDigit 1 (some .boolean)) 1 M [.int (-1)] (fun r M' => 0 = r ∧ M = M') := by
  refine MI_of (by decide) (Nat.le_of_ble_eq_true rfl) ?_
  intro p e s m args below meth c X hr hlocks
  refine j_lv (lv1 := [(0, .int (-1))]) [0] rfl ?_
  refine j_iload_n X 0 rfl rfl dX8_isDigit_0 ?_
  refine j_bipush X (v := 48) (by decide) dX8_isDigit_1 ?_
  refine j_bipush X (v := 57) (by decide) dX8_isDigit_3 ?_
  refine j_callSI X (nn := 3) (As := [.int (-1), .int 48, .int 57]) (st := []) aw_134 (c_X8_in l D y ad M (-1) 48 57 48 57 (by decide) (by decide)) aw_133 aw_135 aw_5 (by decide +kernel) ⟨by decide, by decide⟩ rfl (Nat.le_of_ble_eq_true rfl) ⟨by decide, by decide⟩ dX8_isDigit_5 ?_
  rintro r_ M1_ (⟨rfl, rfl, h_1⟩ | ⟨rfl, rfl, h_1⟩)
  · exact absurd h_1 (by decide)
  · exact j_zret X hr hlocks (Or.inl rfl) dX8_isDigit_8 ⟨rfl, rfl⟩
set_option maxRecDepth 100000 in
set_option maxHeartbeats 4000000 in
theorem c_named0 (l : Launch) (D : va_G) (y : wY) (ad : Nat → Nat) (M : Mem)  : MV l D y ad yX8_named (Cond.code yX8_named cX8_named 5 none) 0 M [.ref (ad 79), .int (-1)] (fun M' => up M 79 11 0 = M') := by
  refine MV_of (by decide) (Nat.le_of_ble_eq_true rfl) ?_
  intro p e s m args below meth c X hr hlocks
  refine j_lv (lv1 := [(0, .ref (ad 79)), (1, .int (-1))]) [0, 1] rfl ?_
  refine j_iload_n X 1 rfl rfl dX8_named_0 ?_
  refine j_bipush X (v := 101) (by decide) dX8_named_1 ?_
  refine j_icmp_ne X 10 (by decide) dX8_named_3 (fun c_1 => ?_) (fun c_1 => False.elim (by revert c_1; decide))
  refine j_iconst X (v := 0) (by decide) dX8_named_10 ?_
  refine j_istore_n X [(2, .int 0), (0, .ref (ad 79)), (1, .int (-1))] rfl (by decide) rfl dX8_named_11 ?_
  refine j_iload_n X 2 rfl rfl dX8_named_12 ?_
  refine j_bipush X (v := 97) (by decide) dX8_named_13 ?_
  refine j_icmp_ne X 22 (by decide) dX8_named_15 (fun c_2 => ?_) (fun c_2 => False.elim (by revert c_2; decide))
  refine j_iconst X (v := 0) (by decide) dX8_named_22 ?_
  refine j_istore_n X [(3, .int 0), (2, .int 0), (0, .ref (ad 79)), (1, .int (-1))] rfl (by decide) rfl dX8_named_23 ?_
  refine j_iload_n X 3 rfl rfl dX8_named_24 ?_
  refine j_aload_n X 2 rfl rfl dX8_named_25 ?_
  refine j_get X (by decide) (wE_8 _ rfl) rfl awF8 6 (by decide) aw_377 rfl (v := .int (M 79 6)) rfl dX8_named_26 ?_
  refine j_if_ne X 37 (by decide) dX8_named_29 (fun c_3 => ?_) (fun c_3 => ?_)
  · have qc_3 := ti_ne (n := 0) (by decide) c_3
    refine j_bipush X (v := 109) (by decide) dX8_named_37 ?_
    refine j_icmp_ne X 46 (by decide) dX8_named_39 (fun c_4 => ?_) (fun c_4 => False.elim (by revert c_4; decide))
    refine j_iconst X (v := 0) (by decide) dX8_named_46 ?_
    refine j_istore X [(4, .int 0), (3, .int 0), (2, .int 0), (0, .ref (ad 79)), (1, .int (-1))] (by decide) rfl dX8_named_47 ?_
    refine j_aload_n X 3 rfl rfl dX8_named_49 ?_
    refine j_iload_n X 2 rfl rfl dX8_named_50 ?_
    refine j_if_ne X 63 (by decide) dX8_named_51 (fun c_5 => False.elim (by revert c_5; decide)) (fun c_5 => ?_)
    refine j_iload_n X 1 rfl rfl dX8_named_54 ?_
    refine j_if_ne X 63 (by decide) dX8_named_55 (fun c_6 => False.elim (by revert c_6; decide)) (fun c_6 => ?_)
    refine j_iload X 0 rfl dX8_named_58 ?_
    refine j_if_eq X 67 (by decide) dX8_named_60 (fun c_7 => ?_) (fun c_7 => False.elim (by revert c_7; decide))
    refine j_iconst X (v := 0) (by decide) dX8_named_67 ?_
    refine j_put X (up M 79 11 0) up_o (by decide) (wE_8 _ rfl) rfl awF8 11 (by decide) (wP_8_11 _ _ rfl) tyX8 tyX8_ok nmX8 rfl (ty := .boolean) (by decide +kernel) rfl rfl (Nat.le_of_ble_eq_true rfl) aw_382 rfl dX8_named_68 ?_
    refine j_aload_n X 3 rfl rfl dX8_named_71 ?_
    refine j_get X (by decide) (wE_8 _ rfl) rfl awF8 11 (by decide) aw_382 rfl (v := .int ((up M 79 11 0) 79 11)) rfl dX8_named_72 ?_
    refine j_eqi (v := 0) (by simp [up]) ?_
    refine j_if_eq X 113 (by decide) dX8_named_75 (fun c_8 => ?_) (fun c_8 => False.elim (by revert c_8; decide))
    exact j_vret X hr hlocks dX8_named_113 rfl
  · have qc_3 := ti_eq (n := 0) (by decide) c_3
    refine j_bipush X (v := 100) (by decide) dX8_named_32 ?_
    refine j_goto X 39 (by decide) dX8_named_34 ?_
    refine j_icmp_ne X 46 (by decide) dX8_named_39 (fun c_9 => ?_) (fun c_9 => False.elim (by revert c_9; decide))
    refine j_iconst X (v := 0) (by decide) dX8_named_46 ?_
    refine j_istore X [(4, .int 0), (3, .int 0), (2, .int 0), (0, .ref (ad 79)), (1, .int (-1))] (by decide) rfl dX8_named_47 ?_
    refine j_aload_n X 3 rfl rfl dX8_named_49 ?_
    refine j_iload_n X 2 rfl rfl dX8_named_50 ?_
    refine j_if_ne X 63 (by decide) dX8_named_51 (fun c_10 => False.elim (by revert c_10; decide)) (fun c_10 => ?_)
    refine j_iload_n X 1 rfl rfl dX8_named_54 ?_
    refine j_if_ne X 63 (by decide) dX8_named_55 (fun c_11 => False.elim (by revert c_11; decide)) (fun c_11 => ?_)
    refine j_iload X 0 rfl dX8_named_58 ?_
    refine j_if_eq X 67 (by decide) dX8_named_60 (fun c_12 => ?_) (fun c_12 => False.elim (by revert c_12; decide))
    refine j_iconst X (v := 0) (by decide) dX8_named_67 ?_
    refine j_put X (up M 79 11 0) up_o (by decide) (wE_8 _ rfl) rfl awF8 11 (by decide) (wP_8_11 _ _ rfl) tyX8 tyX8_ok nmX8 rfl (ty := .boolean) (by decide +kernel) rfl rfl (Nat.le_of_ble_eq_true rfl) aw_382 rfl dX8_named_68 ?_
    refine j_aload_n X 3 rfl rfl dX8_named_71 ?_
    refine j_get X (by decide) (wE_8 _ rfl) rfl awF8 11 (by decide) aw_382 rfl (v := .int ((up M 79 11 0) 79 11)) rfl dX8_named_72 ?_
    refine j_eqi (v := 0) (by simp [up]) ?_
    refine j_if_eq X 113 (by decide) dX8_named_75 (fun c_13 => ?_) (fun c_13 => False.elim (by revert c_13; decide))
    exact j_vret X hr hlocks dX8_named_113 rfl
set_option maxRecDepth 100000 in
set_option maxHeartbeats 4000000 in
theorem c_factor0 (l : Launch) (D : va_G) (y : wY) (ad : Nat → Nat) (M : Mem) (ha : M 79 7 = 0) (he : M 79 8 = 0) (hg : M 79 11 = 1) : MV l D y ad yX8_factor (Cond.code yX8_factor cX8_factor 2 none) 2 M [.ref (ad 79)] (fun M' => up M 79 11 0 = M') := by
  refine MV_of (by decide) (Nat.le_of_ble_eq_true rfl) ?_
  intro p e s m args below meth c X hr hlocks
  refine j_lv (lv1 := [(0, .ref (ad 79))]) [0] rfl ?_
  refine j_aload_n X 0 rfl rfl dX8_factor_0 ?_
  refine j_aload_n X 0 rfl rfl dX8_factor_1 ?_
  refine j_get X (by decide) (wE_8 _ rfl) rfl awF8 7 (by decide) aw_378 rfl (v := .int (M 79 7)) rfl dX8_factor_2 ?_
  refine j_eqi (v := 0) ha ?_
  refine j_callVI X (nn := 1) (As := [.int 0]) (st := []) (ci := 8) (by decide) (wE_8 _ rfl) rfl aw_391 aw_392 (c_byteAt0 l D y ad M he) aw_390 aw_393 aw_5 (by decide +kernel) ⟨by decide, by decide⟩ rfl (Nat.le_of_ble_eq_true rfl) ⟨by decide, by decide⟩ dX8_factor_5 ?_
  rintro r_ M1_ ⟨rfl, rfl⟩
  refine j_istore_n X [(1, .int (-1)), (0, .ref (ad 79))] rfl (by decide) rfl dX8_factor_8 ?_
  refine j_iload_n X 0 rfl rfl dX8_factor_9 ?_
  refine j_callSI X (nn := 1) (As := [.int (-1)]) (st := []) aw_408 (c_X8_isDigit0 l D y ad M) aw_407 aw_409 aw_5 (by decide +kernel) ⟨by decide, by decide⟩ rfl (Nat.le_of_ble_eq_true rfl) ⟨by decide, by decide⟩ dX8_factor_10 ?_
  rintro r_ M1_ ⟨rfl, rfl⟩
  refine j_if_eq X 23 (by decide) dX8_factor_13 (fun c_1 => ?_) (fun c_1 => False.elim (by revert c_1; decide))
  refine j_iload_n X 0 rfl rfl dX8_factor_23 ?_
  refine j_bipush X (v := 33) (by decide) dX8_factor_24 ?_
  refine j_icmp_eq X 43 (by decide) dX8_factor_26 (fun c_2 => False.elim (by revert c_2; decide)) (fun c_2 => ?_)
  refine j_iload_n X 0 rfl rfl dX8_factor_29 ?_
  refine j_bipush X (v := 40) (by decide) dX8_factor_30 ?_
  refine j_icmp_eq X 43 (by decide) dX8_factor_32 (fun c_3 => False.elim (by revert c_3; decide)) (fun c_3 => ?_)
  refine j_aload_n X 1 rfl rfl dX8_factor_35 ?_
  refine j_iload_n X 0 rfl rfl dX8_factor_36 ?_
  refine j_callVV X (nn := 1) (As := [.int (-1)]) (st := []) (ci := 8) (by decide) (wE_8 _ rfl) rfl aw_415 aw_416 (c_named0 l D y ad M) aw_414 aw_417 aw_5 (by decide +kernel) ⟨by decide, by decide⟩ rfl (Nat.le_of_ble_eq_true rfl) ⟨by decide, by decide⟩ dX8_factor_37 ?_
  rintro M1_ rfl
  refine j_goto X 163 (by decide) dX8_factor_40 ?_
  exact j_vret X hr hlocks dX8_factor_163 rfl
set_option maxRecDepth 100000 in
set_option maxHeartbeats 4000000 in
theorem c_product0 (l : Launch) (D : va_G) (y : wY) (ad : Nat → Nat) (M : Mem) (ha : M 79 7 = 0) (he : M 79 8 = 0) (hg : M 79 11 = 1) : MV l D y ad yX8_product (Cond.code yX8_product cX8_product 2 none) 3 M [.ref (ad 79)] (fun M' => up M 79 11 0 = M') := by
  refine MV_of (by decide) (Nat.le_of_ble_eq_true rfl) ?_
  intro p e s m args below meth c X hr hlocks
  refine j_lv (lv1 := [(0, .ref (ad 79))]) [0] rfl ?_
  refine j_aload_n X 0 rfl rfl dX8_product_0 ?_
  refine j_callVV X (nn := 0) (As := []) (st := []) (ci := 8) (by decide) (wE_8 _ rfl) rfl aw_419 aw_420 (c_factor0 l D y ad M ha he hg) aw_418 aw_406 aw_5 (by decide +kernel) ⟨by decide, by decide⟩ rfl (Nat.le_of_ble_eq_true rfl) ⟨by decide, by decide⟩ dX8_product_1 ?_
  rintro M1_ rfl
  refine j_aload_n X 0 rfl rfl dX8_product_4 ?_
  refine j_get X (by decide) (wE_8 _ rfl) rfl awF8 11 (by decide) aw_382 rfl (v := .int ((up M 79 11 0) 79 11)) rfl dX8_product_5 ?_
  refine j_eqi (v := 0) (by simp [up]) ?_
  refine j_if_eq X 85 (by decide) dX8_product_8 (fun c_1 => ?_) (fun c_1 => False.elim (by revert c_1; decide))
  exact j_vret X hr hlocks dX8_product_85 rfl
set_option maxRecDepth 100000 in
set_option maxHeartbeats 4000000 in
theorem c_sum0 (l : Launch) (D : va_G) (y : wY) (ad : Nat → Nat) (M : Mem) (ha : M 79 7 = 0) (he : M 79 8 = 0) (hg : M 79 11 = 1) : MV l D y ad yX8_sum (Cond.code yX8_sum cX8_sum 2 none) 4 M [.ref (ad 79)] (fun M' => up M 79 11 0 = M') := by
  refine MV_of (by decide) (Nat.le_of_ble_eq_true rfl) ?_
  intro p e s m args below meth c X hr hlocks
  refine j_lv (lv1 := [(0, .ref (ad 79))]) [0] rfl ?_
  refine j_aload_n X 0 rfl rfl dX8_sum_0 ?_
  refine j_callVV X (nn := 0) (As := []) (st := []) (ci := 8) (by decide) (wE_8 _ rfl) rfl aw_424 aw_425 (c_product0 l D y ad M ha he hg) aw_423 aw_421 aw_5 (by decide +kernel) ⟨by decide, by decide⟩ rfl (Nat.le_of_ble_eq_true rfl) ⟨by decide, by decide⟩ dX8_sum_1 ?_
  rintro M1_ rfl
  refine j_aload_n X 0 rfl rfl dX8_sum_4 ?_
  refine j_get X (by decide) (wE_8 _ rfl) rfl awF8 11 (by decide) aw_382 rfl (v := .int ((up M 79 11 0) 79 11)) rfl dX8_sum_5 ?_
  refine j_eqi (v := 0) (by simp [up]) ?_
  refine j_if_eq X 72 (by decide) dX8_sum_8 (fun c_1 => ?_) (fun c_1 => False.elim (by revert c_1; decide))
  exact j_vret X hr hlocks dX8_sum_72 rfl
set_option maxRecDepth 100000 in
set_option maxHeartbeats 4000000 in
theorem c_compared0 (l : Launch) (D : va_G) (y : wY) (ad : Nat → Nat) (M : Mem) (ha : M 79 7 = 0) (he : M 79 8 = 0) (hg : M 79 11 = 1) : MV l D y ad yX8_compared (Cond.code yX8_compared cX8_compared 2 none) 5 M [.ref (ad 79)] (fun M' => up M 79 11 0 = M') := by
  refine MV_of (by decide) (Nat.le_of_ble_eq_true rfl) ?_
  intro p e s m args below meth c X hr hlocks
  refine j_lv (lv1 := [(0, .ref (ad 79))]) [0] rfl ?_
  refine j_aload_n X 0 rfl rfl dX8_compared_0 ?_
  refine j_callVV X (nn := 0) (As := []) (st := []) (ci := 8) (by decide) (wE_8 _ rfl) rfl aw_404 aw_405 (c_sum0 l D y ad M ha he hg) aw_403 aw_422 aw_5 (by decide +kernel) ⟨by decide, by decide⟩ rfl (Nat.le_of_ble_eq_true rfl) ⟨by decide, by decide⟩ dX8_compared_1 ?_
  rintro M1_ rfl
  refine j_aload_n X 0 rfl rfl dX8_compared_4 ?_
  refine j_get X (by decide) (wE_8 _ rfl) rfl awF8 11 (by decide) aw_382 rfl (v := .int ((up M 79 11 0) 79 11)) rfl dX8_compared_5 ?_
  refine j_eqi (v := 0) (by simp [up]) ?_
  refine j_if_eq X 22 (by decide) dX8_compared_8 (fun c_1 => ?_) (fun c_1 => False.elim (by revert c_1; decide))
  refine j_iconst X (v := (-1)) (by decide) dX8_compared_22 ?_
  refine j_istore_n X [(1, .int (-1)), (0, .ref (ad 79))] rfl (by decide) rfl dX8_compared_23 ?_
  refine j_iload_n X 0 rfl rfl dX8_compared_24 ?_
  refine j_bipush X (v := 60) (by decide) dX8_compared_25 ?_
  refine j_icmp_eq X 42 (by decide) dX8_compared_27 (fun c_2 => False.elim (by revert c_2; decide)) (fun c_2 => ?_)
  refine j_iload_n X 0 rfl rfl dX8_compared_30 ?_
  refine j_bipush X (v := 61) (by decide) dX8_compared_31 ?_
  refine j_icmp_eq X 42 (by decide) dX8_compared_33 (fun c_3 => False.elim (by revert c_3; decide)) (fun c_3 => ?_)
  refine j_iload_n X 0 rfl rfl dX8_compared_36 ?_
  refine j_bipush X (v := 62) (by decide) dX8_compared_37 ?_
  refine j_icmp_ne X 65 (by decide) dX8_compared_39 (fun c_4 => ?_) (fun c_4 => False.elim (by revert c_4; decide))
  exact j_vret X hr hlocks dX8_compared_65 rfl
set_option maxRecDepth 100000 in
set_option maxHeartbeats 4000000 in
theorem c_both0 (l : Launch) (D : va_G) (y : wY) (ad : Nat → Nat) (M : Mem) (ha : M 79 7 = 0) (he : M 79 8 = 0) (hg : M 79 11 = 1) : MV l D y ad yX8_both (Cond.code yX8_both cX8_both 1 none) 6 M [.ref (ad 79)] (fun M' => up M 79 11 0 = M') := by
  refine MV_of (by decide) (Nat.le_of_ble_eq_true rfl) ?_
  intro p e s m args below meth c X hr hlocks
  refine j_lv (lv1 := [(0, .ref (ad 79))]) [0] rfl ?_
  refine j_aload_n X 0 rfl rfl dX8_both_0 ?_
  refine j_callVV X (nn := 0) (As := []) (st := []) (ci := 8) (by decide) (wE_8 _ rfl) rfl aw_400 aw_401 (c_compared0 l D y ad M ha he hg) aw_399 aw_402 aw_5 (by decide +kernel) ⟨by decide, by decide⟩ rfl (Nat.le_of_ble_eq_true rfl) ⟨by decide, by decide⟩ dX8_both_1 ?_
  rintro M1_ rfl
  refine j_aload_n X 0 rfl rfl dX8_both_4 ?_
  refine j_get X (by decide) (wE_8 _ rfl) rfl awF8 11 (by decide) aw_382 rfl (v := .int ((up M 79 11 0) 79 11)) rfl dX8_both_5 ?_
  refine j_eqi (v := 0) (by simp [up]) ?_
  refine j_if_eq X 48 (by decide) dX8_both_8 (fun c_1 => ?_) (fun c_1 => False.elim (by revert c_1; decide))
  exact j_vret X hr hlocks dX8_both_48 rfl
set_option maxRecDepth 100000 in
set_option maxHeartbeats 4000000 in
theorem c_whole0 (l : Launch) (D : va_G) (y : wY) (ad : Nat → Nat) (M : Mem) (ha : M 79 7 = 0) (he : M 79 8 = 0) (hg : M 79 11 = 1) : MV l D y ad yX8_whole (Cond.code yX8_whole cX8_whole 1 none) 7 M [.ref (ad 79)] (fun M' => up M 79 11 0 = M') := by
  refine MV_of (by decide) (Nat.le_of_ble_eq_true rfl) ?_
  intro p e s m args below meth c X hr hlocks
  refine j_lv (lv1 := [(0, .ref (ad 79))]) [0] rfl ?_
  refine j_aload_n X 0 rfl rfl dX8_whole_0 ?_
  refine j_callVV X (nn := 0) (As := []) (st := []) (ci := 8) (by decide) (wE_8 _ rfl) rfl aw_388 aw_389 (c_both0 l D y ad M ha he hg) aw_387 aw_398 aw_5 (by decide +kernel) ⟨by decide, by decide⟩ rfl (Nat.le_of_ble_eq_true rfl) ⟨by decide, by decide⟩ dX8_whole_1 ?_
  rintro M1_ rfl
  refine j_aload_n X 0 rfl rfl dX8_whole_4 ?_
  refine j_get X (by decide) (wE_8 _ rfl) rfl awF8 11 (by decide) aw_382 rfl (v := .int ((up M 79 11 0) 79 11)) rfl dX8_whole_5 ?_
  refine j_eqi (v := 0) (by simp [up]) ?_
  refine j_if_eq X 48 (by decide) dX8_whole_8 (fun c_1 => ?_) (fun c_1 => False.elim (by revert c_1; decide))
  exact j_vret X hr hlocks dX8_whole_48 rfl
set_option maxRecDepth 100000 in
set_option maxHeartbeats 4000000 in
theorem c0_X8_text (l : Launch) (D : va_G) (y : wY) (ad : Nat → Nat) (M : Mem) (hz : Z1 M) (u : Int32) : MI l D y ad yX8_text (Cond.code yX8_text cX8_text 3 (some .int)) 10 M [.ref (ad 79), .int u] (fun r _ => sp_text u = r) := by
  refine MI_of (by decide) (Nat.le_of_ble_eq_true rfl) ?_
  intro p e s m args below meth c X hr hlocks
  refine j_lv (lv1 := [(0, .ref (ad 79)), (1, .int u)]) [0, 1] rfl ?_
  refine j_iload_n X 1 rfl rfl dX8_text_0 ?_
  refine j_iconst X (v := 0) (by decide) dX8_text_1 ?_
  refine j_iconst X (v := 1) (by decide) dX8_text_2 ?_
  refine j_callSI X (nn := 3) (As := [.int u, .int 0, .int 1]) (st := []) aw_134 (c_X8_in l D y ad M u 0 1 0 1 (by decide) (by decide)) aw_133 aw_135 aw_5 (by decide +kernel) ⟨by decide, by decide⟩ rfl (Nat.le_of_ble_eq_true rfl) ⟨by decide, by decide⟩ dX8_text_3 ?_
  rintro r_ M1_ (⟨rfl, rfl, h_1⟩ | ⟨rfl, rfl, h_1⟩)
  · refine j_if_ne X 16 (by decide) dX8_text_6 (fun c_2 => ?_) (fun c_2 => False.elim (by revert c_2; decide))
    refine j_aload_n X 0 rfl rfl dX8_text_16 ?_
    refine j_iload_n X 1 rfl rfl dX8_text_17 ?_
    refine j_put X (up M 79 6 u) up_o (by decide) (wE_8 _ rfl) rfl awF8 6 (by decide) (wP_8_6 _ _ rfl) tyX8 tyX8_ok nmX8 rfl (ty := .int) (by decide +kernel) rfl rfl (Nat.le_of_ble_eq_true rfl) aw_377 rfl dX8_text_18 ?_
    refine j_aload_n X 0 rfl rfl dX8_text_21 ?_
    refine j_iconst X (v := 0) (by decide) dX8_text_22 ?_
    refine j_put X (up (up M 79 6 u) 79 7 0) up_o (by decide) (wE_8 _ rfl) rfl awF8 7 (by decide) (wP_8_7 _ _ rfl) tyX8 tyX8_ok nmX8 rfl (ty := .int) (by decide +kernel) rfl rfl (Nat.le_of_ble_eq_true rfl) aw_378 rfl dX8_text_23 ?_
    refine j_aload_n X 0 rfl rfl dX8_text_26 ?_
    refine j_aload_n X 0 rfl rfl dX8_text_27 ?_
    refine j_get X (by decide) (wE_8 _ rfl) rfl awF8 0 (by decide) aw_92 rfl (v := .ref (ad 80)) rfl dX8_text_28 ?_
    refine j_iconst X (v := 3) (by decide) dX8_text_31 ?_
    refine j_iald X (by decide) rfl (by unfold vp_in; decide) dX8_text_32 ?_
    refine j_eqi (v := 0) ((show _ = M 80 3 from by simp [up]).trans hz.2.2.2.1) ?_
    refine j_put X (up (up (up M 79 6 u) 79 7 0) 79 8 0) up_o (by decide) (wE_8 _ rfl) rfl awF8 8 (by decide) (wP_8_8 _ _ rfl) tyX8 tyX8_ok nmX8 rfl (ty := .int) (by decide +kernel) rfl rfl (Nat.le_of_ble_eq_true rfl) aw_379 rfl dX8_text_33 ?_
    refine j_aload_n X 0 rfl rfl dX8_text_36 ?_
    refine j_iconst X (v := 0) (by decide) dX8_text_37 ?_
    refine j_put X (up (up (up (up M 79 6 u) 79 7 0) 79 8 0) 79 9 0) up_o (by decide) (wE_8 _ rfl) rfl awF8 9 (by decide) (wP_8_9 _ _ rfl) tyX8 tyX8_ok nmX8 rfl (ty := .int) (by decide +kernel) rfl rfl (Nat.le_of_ble_eq_true rfl) aw_380 rfl dX8_text_38 ?_
    refine j_aload_n X 0 rfl rfl dX8_text_41 ?_
    refine j_iconst X (v := 0) (by decide) dX8_text_42 ?_
    refine j_put X (up (up (up (up (up M 79 6 u) 79 7 0) 79 8 0) 79 9 0) 79 10 0) up_o (by decide) (wE_8 _ rfl) rfl awF8 10 (by decide) (wP_8_10 _ _ rfl) tyX8 tyX8_ok nmX8 rfl (ty := .int) (by decide +kernel) rfl rfl (Nat.le_of_ble_eq_true rfl) aw_381 rfl dX8_text_43 ?_
    refine j_aload_n X 0 rfl rfl dX8_text_46 ?_
    refine j_iconst X (v := 1) (by decide) dX8_text_47 ?_
    refine j_put X (up (up (up (up (up (up M 79 6 u) 79 7 0) 79 8 0) 79 9 0) 79 10 0) 79 11 1) up_o (by decide) (wE_8 _ rfl) rfl awF8 11 (by decide) (wP_8_11 _ _ rfl) tyX8 tyX8_ok nmX8 rfl (ty := .boolean) (by decide +kernel) rfl rfl (Nat.le_of_ble_eq_true rfl) aw_382 rfl dX8_text_48 ?_
    refine j_aload_n X 0 rfl rfl dX8_text_51 ?_
    refine j_callVV X (nn := 0) (As := []) (st := []) (ci := 8) (by decide) (wE_8 _ rfl) rfl aw_384 aw_385 (c_whole0 l D y ad (up (up (up (up (up (up M 79 6 u) 79 7 0) 79 8 0) 79 9 0) 79 10 0) 79 11 1) (by simp [up]) (by simp [up]) (by simp [up])) aw_383 aw_386 aw_5 (by decide +kernel) ⟨by decide, by decide⟩ rfl (Nat.le_of_ble_eq_true rfl) ⟨by decide, by decide⟩ dX8_text_52 ?_
    rintro M1_ rfl
    refine j_aload_n X 0 rfl rfl dX8_text_55 ?_
    refine j_aload_n X 0 rfl rfl dX8_text_56 ?_
    refine j_get X (by decide) (wE_8 _ rfl) rfl awF8 11 (by decide) aw_382 rfl (v := .int ((up (up (up (up (up (up (up M 79 6 u) 79 7 0) 79 8 0) 79 9 0) 79 10 0) 79 11 1) 79 11 0) 79 11)) rfl dX8_text_57 ?_
    refine j_eqi (v := 0) (by simp [up]) ?_
    refine j_if_eq X 78 (by decide) dX8_text_60 (fun c_3 => ?_) (fun c_3 => False.elim (by revert c_3; decide))
    refine j_iconst X (v := 0) (by decide) dX8_text_78 ?_
    refine j_put X (up (up (up (up (up (up (up (up M 79 6 u) 79 7 0) 79 8 0) 79 9 0) 79 10 0) 79 11 1) 79 11 0) 79 11 0) up_o (by decide) (wE_8 _ rfl) rfl awF8 11 (by decide) (wP_8_11 _ _ rfl) tyX8 tyX8_ok nmX8 rfl (ty := .boolean) (by decide +kernel) rfl rfl (Nat.le_of_ble_eq_true rfl) aw_382 rfl dX8_text_79 ?_
    refine j_aload_n X 0 rfl rfl dX8_text_82 ?_
    refine j_get X (by decide) (wE_8 _ rfl) rfl awF8 0 (by decide) aw_92 rfl (v := .ref (ad 80)) rfl dX8_text_83 ?_
    refine j_iconst X (v := 3) (by decide) dX8_text_86 ?_
    refine j_iconst X (v := 0) (by decide) dX8_text_87 ?_
    refine j_iast X (by decide) rfl (by unfold vp_in; decide) dX8_text_88 ?_
    refine j_eqM (M1 := (up (up (up (up (up (up (up (up (up M 79 6 u) 79 7 0) 79 8 0) 79 9 0) 79 10 0) 79 11 1) 79 11 0) 79 11 0) 80 3 0)) rfl ?_
    refine j_aload_n X 0 rfl rfl dX8_text_89 ?_
    refine j_get X (by decide) (wE_8 _ rfl) rfl awF8 11 (by decide) aw_382 rfl (v := .int ((up (up (up (up (up (up (up (up (up M 79 6 u) 79 7 0) 79 8 0) 79 9 0) 79 10 0) 79 11 1) 79 11 0) 79 11 0) 80 3 0) 79 11)) rfl dX8_text_90 ?_
    refine j_eqi (v := 0) (by simp [up]) ?_
    refine j_if_ne X 104 (by decide) dX8_text_93 (fun c_4 => False.elim (by revert c_4; decide)) (fun c_4 => ?_)
    refine j_bipush X (v := (-10)) (by decide) dX8_text_96 ?_
    refine j_aload_n X 0 rfl rfl dX8_text_98 ?_
    refine j_get X (by decide) (wE_8 _ rfl) rfl awF8 7 (by decide) aw_378 rfl (v := .int ((up (up (up (up (up (up (up (up (up M 79 6 u) 79 7 0) 79 8 0) 79 9 0) 79 10 0) 79 11 1) 79 11 0) 79 11 0) 80 3 0) 79 7)) rfl dX8_text_99 ?_
    refine j_eqi (v := 0) (by simp [up]) ?_
    refine j_isub X dX8_text_102 ?_
    refine j_eqi (v := (-10)) (by decide) ?_
    exact j_iret X hr hlocks dX8_text_103 (by unfold sp_text; (repeat' split) <;> first | rfl | omega | (exfalso; omega))
  · refine j_if_ne X 16 (by decide) dX8_text_6 (fun c_5 => False.elim (by revert c_5; decide)) (fun c_5 => ?_)
    refine j_aload_n X 0 rfl rfl dX8_text_9 ?_
    refine j_ldc X (v := (-1000000001)) aw_132 dX8_text_10 ?_
    refine j_callVI X (nn := 1) (As := [.int (-1000000001)]) (st := []) (ci := 8) (by decide) (wE_8 _ rfl) rfl aw_144 aw_145 (c_X8_errs l D y ad M (-1000000001) 1 (by decide) (by decide)) aw_143 aw_146 aw_5 (by decide +kernel) ⟨by decide, by decide⟩ rfl (Nat.le_of_ble_eq_true rfl) ⟨by decide, by decide⟩ dX8_text_12 ?_
    rintro r_ M1_ ⟨rfl, rfl⟩
    exact j_iret X hr hlocks dX8_text_15 (by unfold sp_text; (repeat' split) <;> first | rfl | omega | (exfalso; omega))
