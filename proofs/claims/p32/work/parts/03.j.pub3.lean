theorem dX0_setHangingOn_0 : decode cX0_setHangingOn 0 = .ok (.iconst 0, 1) := by decide +kernel
theorem dX0_setHangingOn_1 : decode cX0_setHangingOn 1 = .ok (.istore_n 2, 1) := by decide +kernel
theorem dX0_setHangingOn_2 : decode cX0_setHangingOn 2 = .ok (.iload_n 1, 1) := by decide +kernel
theorem dX0_setHangingOn_3 : decode cX0_setHangingOn 3 = .ok (.iconst 1, 1) := by decide +kernel
theorem dX0_setHangingOn_4 : decode cX0_setHangingOn 4 = .ok (.iadd, 1) := by decide +kernel
theorem dX0_setHangingOn_5 : decode cX0_setHangingOn 5 = .ok (.istore_n 3, 1) := by decide +kernel
theorem dX0_setHangingOn_6 : decode cX0_setHangingOn 6 = .ok (.iload_n 3, 1) := by decide +kernel
theorem dX0_setHangingOn_7 : decode cX0_setHangingOn 7 = .ok (.aload_n 0, 1) := by decide +kernel
theorem dX0_setHangingOn_8 : decode cX0_setHangingOn 8 = .ok (.getfield 29, 3) := by decide +kernel
theorem dX0_setHangingOn_11 : decode cX0_setHangingOn 11 = .ok (.if_icmp .ge 46, 3) := by decide +kernel
theorem dX0_setHangingOn_57 : decode cX0_setHangingOn 57 = .ok (.iload_n 2, 1) := by decide +kernel
theorem dX0_setHangingOn_58 : decode cX0_setHangingOn 58 = .ok (.ireturn, 1) := by decide +kernel
theorem dX0_setHangingOn_14 : decode cX0_setHangingOn 14 = .ok (.aload_n 0, 1) := by decide +kernel
theorem dX0_setHangingOn_15 : decode cX0_setHangingOn 15 = .ok (.getfield 11, 3) := by decide +kernel
theorem dX0_setHangingOn_18 : decode cX0_setHangingOn 18 = .ok (.iload_n 3, 1) := by decide +kernel
theorem dX0_setHangingOn_19 : decode cX0_setHangingOn 19 = .ok (.aaload, 1) := by decide +kernel
theorem dX0_setHangingOn_20 : decode cX0_setHangingOn 20 = .ok (.getfield 108, 3) := by decide +kernel
theorem dX0_setHangingOn_23 : decode cX0_setHangingOn 23 = .ok (.istore 4, 2) := by decide +kernel
theorem dX0_setHangingOn_25 : decode cX0_setHangingOn 25 = .ok (.iload 4, 2) := by decide +kernel
theorem dX0_setHangingOn_27 : decode cX0_setHangingOn 27 = .ok (.iload_n 1, 1) := by decide +kernel
theorem dX0_setHangingOn_28 : decode cX0_setHangingOn 28 = .ok (.if_icmp .eq 17, 3) := by decide +kernel
theorem dX0_setHangingOn_45 : decode cX0_setHangingOn 45 = .ok (.iload_n 2, 1) := by decide +kernel
theorem dX0_setHangingOn_46 : decode cX0_setHangingOn 46 = .ok (.iconst 1, 1) := by decide +kernel
theorem dX0_setHangingOn_47 : decode cX0_setHangingOn 47 = .ok (.iload_n 3, 1) := by decide +kernel
theorem dX0_setHangingOn_48 : decode cX0_setHangingOn 48 = .ok (.ishl, 1) := by decide +kernel
theorem dX0_setHangingOn_49 : decode cX0_setHangingOn 49 = .ok (.ior, 1) := by decide +kernel
theorem dX0_setHangingOn_50 : decode cX0_setHangingOn 50 = .ok (.istore_n 2, 1) := by decide +kernel
theorem dX0_setHangingOn_51 : decode cX0_setHangingOn 51 = .ok (.iinc 3 1, 3) := by decide +kernel
theorem dX0_setHangingOn_54 : decode cX0_setHangingOn 54 = .ok (.goto (-48), 3) := by decide +kernel
theorem dX0_setHangingOn_31 : decode cX0_setHangingOn 31 = .ok (.iload 4, 2) := by decide +kernel
theorem dX0_setHangingOn_33 : decode cX0_setHangingOn 33 = .ok (.ifCond .lt 18, 3) := by decide +kernel
theorem dX0_setHangingOn_36 : decode cX0_setHangingOn 36 = .ok (.iload_n 2, 1) := by decide +kernel
theorem dX0_setHangingOn_37 : decode cX0_setHangingOn 37 = .ok (.iload 4, 2) := by decide +kernel
theorem dX0_setHangingOn_39 : decode cX0_setHangingOn 39 = .ok (.ishr, 1) := by decide +kernel
theorem dX0_setHangingOn_40 : decode cX0_setHangingOn 40 = .ok (.iconst 1, 1) := by decide +kernel
theorem dX0_setHangingOn_41 : decode cX0_setHangingOn 41 = .ok (.iand, 1) := by decide +kernel
theorem dX0_setHangingOn_42 : decode cX0_setHangingOn 42 = .ok (.ifCond .eq 9, 3) := by decide +kernel
theorem dX0_setItHangsOn_0 : decode cX0_setItHangsOn 0 = .ok (.iconst 1, 1) := by decide +kernel
theorem dX0_setItHangsOn_1 : decode cX0_setItHangsOn 1 = .ok (.iload_n 1, 1) := by decide +kernel
theorem dX0_setItHangsOn_2 : decode cX0_setItHangsOn 2 = .ok (.ishl, 1) := by decide +kernel
theorem dX0_setItHangsOn_3 : decode cX0_setItHangsOn 3 = .ok (.istore_n 2, 1) := by decide +kernel
theorem dX0_setItHangsOn_4 : decode cX0_setItHangsOn 4 = .ok (.iload_n 1, 1) := by decide +kernel
theorem dX0_setItHangsOn_5 : decode cX0_setItHangsOn 5 = .ok (.istore_n 3, 1) := by decide +kernel
theorem dX0_setItHangsOn_6 : decode cX0_setItHangsOn 6 = .ok (.iload_n 3, 1) := by decide +kernel
theorem dX0_setItHangsOn_7 : decode cX0_setItHangsOn 7 = .ok (.ifCond .le 43, 3) := by decide +kernel
theorem dX0_setItHangsOn_50 : decode cX0_setItHangsOn 50 = .ok (.iload_n 2, 1) := by decide +kernel
theorem dX0_setItHangsOn_51 : decode cX0_setItHangsOn 51 = .ok (.ireturn, 1) := by decide +kernel
theorem dX0_setItHangsOn_10 : decode cX0_setItHangsOn 10 = .ok (.iload_n 2, 1) := by decide +kernel
theorem dX0_setItHangsOn_11 : decode cX0_setItHangsOn 11 = .ok (.iload_n 3, 1) := by decide +kernel
theorem dX0_setItHangsOn_12 : decode cX0_setItHangsOn 12 = .ok (.ishr, 1) := by decide +kernel
theorem dX0_setItHangsOn_13 : decode cX0_setItHangsOn 13 = .ok (.iconst 1, 1) := by decide +kernel
theorem dX0_setItHangsOn_14 : decode cX0_setItHangsOn 14 = .ok (.iand, 1) := by decide +kernel
theorem dX0_setItHangsOn_15 : decode cX0_setItHangsOn 15 = .ok (.ifCond .eq 29, 3) := by decide +kernel
theorem dX0_setItHangsOn_44 : decode cX0_setItHangsOn 44 = .ok (.iinc 3 (-1), 3) := by decide +kernel
theorem dX0_setItHangsOn_47 : decode cX0_setItHangsOn 47 = .ok (.goto (-41), 3) := by decide +kernel
theorem dX0_setItHangsOn_18 : decode cX0_setItHangsOn 18 = .ok (.aload_n 0, 1) := by decide +kernel
theorem dX0_setItHangsOn_19 : decode cX0_setItHangsOn 19 = .ok (.getfield 11, 3) := by decide +kernel
theorem dX0_setItHangsOn_22 : decode cX0_setItHangsOn 22 = .ok (.iload_n 3, 1) := by decide +kernel
theorem dX0_setItHangsOn_23 : decode cX0_setItHangsOn 23 = .ok (.aaload, 1) := by decide +kernel
theorem dX0_setItHangsOn_24 : decode cX0_setItHangsOn 24 = .ok (.getfield 108, 3) := by decide +kernel
theorem dX0_setItHangsOn_27 : decode cX0_setItHangsOn 27 = .ok (.ifCond .lt 17, 3) := by decide +kernel
theorem dX0_setItHangsOn_30 : decode cX0_setItHangsOn 30 = .ok (.iload_n 2, 1) := by decide +kernel
theorem dX0_setItHangsOn_31 : decode cX0_setItHangsOn 31 = .ok (.iconst 1, 1) := by decide +kernel
theorem dX0_setItHangsOn_32 : decode cX0_setItHangsOn 32 = .ok (.aload_n 0, 1) := by decide +kernel
theorem dX0_setItHangsOn_33 : decode cX0_setItHangsOn 33 = .ok (.getfield 11, 3) := by decide +kernel
theorem dX0_setItHangsOn_36 : decode cX0_setItHangsOn 36 = .ok (.iload_n 3, 1) := by decide +kernel
theorem dX0_setItHangsOn_37 : decode cX0_setItHangsOn 37 = .ok (.aaload, 1) := by decide +kernel
theorem dX0_setItHangsOn_38 : decode cX0_setItHangsOn 38 = .ok (.getfield 108, 3) := by decide +kernel
theorem dX0_setItHangsOn_41 : decode cX0_setItHangsOn 41 = .ok (.ishl, 1) := by decide +kernel
theorem dX0_setItHangsOn_42 : decode cX0_setItHangsOn 42 = .ok (.ior, 1) := by decide +kernel
theorem dX0_setItHangsOn_43 : decode cX0_setItHangsOn 43 = .ok (.istore_n 2, 1) := by decide +kernel
theorem dX7_chain_0 : decode cX7_chain 0 = .ok (.aload_n 0, 1) := by decide +kernel
theorem dX7_chain_1 : decode cX7_chain 1 = .ok (.iload_n 1, 1) := by decide +kernel
theorem dX7_chain_2 : decode cX7_chain 2 = .ok (.invokevirtual 117, 3) := by decide +kernel
theorem dX7_chain_5 : decode cX7_chain 5 = .ok (.ifCond .ne 10, 3) := by decide +kernel
theorem dX7_chain_15 : decode cX7_chain 15 = .ok (.aload_n 0, 1) := by decide +kernel
theorem dX7_chain_16 : decode cX7_chain 16 = .ok (.getfield 12, 3) := by decide +kernel
theorem dX7_chain_19 : decode cX7_chain 19 = .ok (.getfield 72, 3) := by decide +kernel
theorem dX7_chain_22 : decode cX7_chain 22 = .ok (.iload_n 1, 1) := by decide +kernel
theorem dX7_chain_23 : decode cX7_chain 23 = .ok (.invokevirtual 243, 3) := by decide +kernel
theorem dX7_chain_26 : decode cX7_chain 26 = .ok (.aload_n 0, 1) := by decide +kernel
theorem dX7_chain_27 : decode cX7_chain 27 = .ok (.getfield 12, 3) := by decide +kernel
theorem dX7_chain_30 : decode cX7_chain 30 = .ok (.getfield 72, 3) := by decide +kernel
theorem dX7_chain_33 : decode cX7_chain 33 = .ok (.invokevirtual 198, 3) := by decide +kernel
theorem dX7_chain_36 : decode cX7_chain 36 = .ok (.iconst (-1), 1) := by decide +kernel
theorem dX7_chain_37 : decode cX7_chain 37 = .ok (.ixor, 1) := by decide +kernel
theorem dX7_chain_38 : decode cX7_chain 38 = .ok (.iand, 1) := by decide +kernel
theorem dX7_chain_39 : decode cX7_chain 39 = .ok (.ireturn, 1) := by decide +kernel
theorem dX7_chain_8 : decode cX7_chain 8 = .ok (.aload_n 0, 1) := by decide +kernel
theorem dX7_chain_9 : decode cX7_chain 9 = .ok (.ldc 68, 2) := by decide +kernel
theorem dX7_chain_11 : decode cX7_chain 11 = .ok (.invokevirtual 69, 3) := by decide +kernel
theorem dX7_chain_14 : decode cX7_chain 14 = .ok (.ireturn, 1) := by decide +kernel
theorem dX7_free_0 : decode cX7_free 0 = .ok (.aload_n 0, 1) := by decide +kernel
theorem dX7_free_1 : decode cX7_free 1 = .ok (.getfield 12, 3) := by decide +kernel
theorem dX7_free_4 : decode cX7_free 4 = .ok (.getfield 72, 3) := by decide +kernel
theorem dX7_free_7 : decode cX7_free 7 = .ok (.invokevirtual 249, 3) := by decide +kernel
theorem dX7_free_10 : decode cX7_free 10 = .ok (.ireturn, 1) := by decide +kernel
theorem dX7_hand_0 : decode cX7_hand 0 = .ok (.aload_n 0, 1) := by decide +kernel
theorem dX7_hand_1 : decode cX7_hand 1 = .ok (.iload_n 1, 1) := by decide +kernel
theorem dX7_hand_2 : decode cX7_hand 2 = .ok (.invokevirtual 117, 3) := by decide +kernel
theorem dX7_hand_5 : decode cX7_hand 5 = .ok (.ifCond .eq 13, 3) := by decide +kernel
theorem dX7_hand_8 : decode cX7_hand 8 = .ok (.iload_n 2, 1) := by decide +kernel
theorem dX7_hand_9 : decode cX7_hand 9 = .ok (.iconst 0, 1) := by decide +kernel
theorem dX7_hand_10 : decode cX7_hand 10 = .ok (.bipush 20, 2) := by decide +kernel
theorem dX7_hand_12 : decode cX7_hand 12 = .ok (.invokestatic 60, 3) := by decide +kernel
theorem dX7_hand_15 : decode cX7_hand 15 = .ok (.ifCond .ne 10, 3) := by decide +kernel
theorem dX7_hand_25 : decode cX7_hand 25 = .ok (.aload_n 0, 1) := by decide +kernel
theorem dX7_hand_26 : decode cX7_hand 26 = .ok (.getfield 12, 3) := by decide +kernel
theorem dX7_hand_29 : decode cX7_hand 29 = .ok (.getfield 72, 3) := by decide +kernel
theorem dX7_hand_32 : decode cX7_hand 32 = .ok (.iload_n 1, 1) := by decide +kernel
theorem dX7_hand_33 : decode cX7_hand 33 = .ok (.invokevirtual 204, 3) := by decide +kernel
theorem dX7_hand_36 : decode cX7_hand 36 = .ok (.aload_n 0, 1) := by decide +kernel
theorem dX7_hand_37 : decode cX7_hand 37 = .ok (.getfield 12, 3) := by decide +kernel
theorem dX7_hand_40 : decode cX7_hand 40 = .ok (.getfield 72, 3) := by decide +kernel
theorem dX7_hand_43 : decode cX7_hand 43 = .ok (.invokevirtual 198, 3) := by decide +kernel
theorem dX7_hand_46 : decode cX7_hand 46 = .ok (.iconst (-1), 1) := by decide +kernel
theorem dX7_hand_47 : decode cX7_hand 47 = .ok (.ixor, 1) := by decide +kernel
theorem dX7_hand_48 : decode cX7_hand 48 = .ok (.iand, 1) := by decide +kernel
theorem dX7_hand_49 : decode cX7_hand 49 = .ok (.istore_n 3, 1) := by decide +kernel
theorem dX7_hand_50 : decode cX7_hand 50 = .ok (.iconst (-1), 1) := by decide +kernel
theorem dX7_hand_51 : decode cX7_hand 51 = .ok (.istore 4, 2) := by decide +kernel
theorem dX7_hand_53 : decode cX7_hand 53 = .ok (.iconst 0, 1) := by decide +kernel
theorem dX7_hand_54 : decode cX7_hand 54 = .ok (.istore 5, 2) := by decide +kernel
theorem dX7_hand_56 : decode cX7_hand 56 = .ok (.iload 5, 2) := by decide +kernel
theorem dX7_hand_58 : decode cX7_hand 58 = .ok (.sipush 512, 3) := by decide +kernel
theorem dX7_hand_61 : decode cX7_hand 61 = .ok (.if_icmp .ge 74, 3) := by decide +kernel
theorem dX7_hand_135 : decode cX7_hand 135 = .ok (.iload 4, 2) := by decide +kernel
theorem dX7_hand_137 : decode cX7_hand 137 = .ok (.ifCond .ge 12, 3) := by decide +kernel
theorem dX7_hand_149 : decode cX7_hand 149 = .ok (.iload 4, 2) := by decide +kernel
theorem dX7_hand_151 : decode cX7_hand 151 = .ok (.ireturn, 1) := by decide +kernel
theorem dX7_hand_140 : decode cX7_hand 140 = .ok (.aload_n 0, 1) := by decide +kernel
theorem dX7_hand_141 : decode cX7_hand 141 = .ok (.ldc 197, 2) := by decide +kernel
theorem dX7_hand_143 : decode cX7_hand 143 = .ok (.invokevirtual 69, 3) := by decide +kernel
theorem dX7_hand_146 : decode cX7_hand 146 = .ok (.goto 5, 3) := by decide +kernel
theorem dX7_hand_64 : decode cX7_hand 64 = .ok (.iload 4, 2) := by decide +kernel
theorem dX7_hand_66 : decode cX7_hand 66 = .ok (.ifCond .lt 16, 3) := by decide +kernel
theorem dX7_hand_82 : decode cX7_hand 82 = .ok (.iconst 1, 1) := by decide +kernel
theorem dX7_hand_83 : decode cX7_hand 83 = .ok (.goto 4, 3) := by decide +kernel
theorem dX7_hand_87 : decode cX7_hand 87 = .ok (.istore 6, 2) := by decide +kernel
theorem dX7_hand_89 : decode cX7_hand 89 = .ok (.iload 5, 2) := by decide +kernel
theorem dX7_hand_91 : decode cX7_hand 91 = .ok (.iload_n 3, 1) := by decide +kernel
theorem dX7_hand_92 : decode cX7_hand 92 = .ok (.iconst (-1), 1) := by decide +kernel
theorem dX7_hand_93 : decode cX7_hand 93 = .ok (.ixor, 1) := by decide +kernel
theorem dX7_hand_94 : decode cX7_hand 94 = .ok (.iand, 1) := by decide +kernel
theorem dX7_hand_95 : decode cX7_hand 95 = .ok (.ifCond .ne 34, 3) := by decide +kernel
theorem dX7_hand_129 : decode cX7_hand 129 = .ok (.iinc 5 1, 3) := by decide +kernel
theorem dX7_hand_132 : decode cX7_hand 132 = .ok (.goto (-76), 3) := by decide +kernel
theorem dX7_hand_98 : decode cX7_hand 98 = .ok (.iload 6, 2) := by decide +kernel
theorem dX7_hand_100 : decode cX7_hand 100 = .ok (.ifCond .eq 29, 3) := by decide +kernel
theorem dX7_hand_103 : decode cX7_hand 103 = .ok (.aload_n 0, 1) := by decide +kernel
theorem dX7_hand_104 : decode cX7_hand 104 = .ok (.invokevirtual 191, 3) := by decide +kernel
theorem dX7_hand_107 : decode cX7_hand 107 = .ok (.aload_n 0, 1) := by decide +kernel
theorem dX7_hand_108 : decode cX7_hand 108 = .ok (.getfield 31, 3) := by decide +kernel
theorem dX7_hand_111 : decode cX7_hand 111 = .ok (.iload 5, 2) := by decide +kernel
theorem dX7_hand_113 : decode cX7_hand 113 = .ok (.invokevirtual 212, 3) := by decide +kernel
theorem dX7_hand_116 : decode cX7_hand 116 = .ok (.aload_n 0, 1) := by decide +kernel
theorem dX7_hand_117 : decode cX7_hand 117 = .ok (.iload_n 1, 1) := by decide +kernel
theorem dX7_hand_118 : decode cX7_hand 118 = .ok (.iload_n 2, 1) := by decide +kernel
theorem dX7_hand_119 : decode cX7_hand 119 = .ok (.invokevirtual 215, 3) := by decide +kernel
theorem dX7_hand_122 : decode cX7_hand 122 = .ok (.ifCond .eq 7, 3) := by decide +kernel
theorem dX7_hand_125 : decode cX7_hand 125 = .ok (.iload 5, 2) := by decide +kernel
theorem dX7_hand_127 : decode cX7_hand 127 = .ok (.istore 4, 2) := by decide +kernel
theorem dX7_hand_69 : decode cX7_hand 69 = .ok (.iload 5, 2) := by decide +kernel
theorem dX7_hand_71 : decode cX7_hand 71 = .ok (.invokestatic 207, 3) := by decide +kernel
theorem dX7_hand_74 : decode cX7_hand 74 = .ok (.iload 4, 2) := by decide +kernel
theorem dX7_hand_76 : decode cX7_hand 76 = .ok (.invokestatic 207, 3) := by decide +kernel
theorem dX7_hand_79 : decode cX7_hand 79 = .ok (.if_icmp .ge 7, 3) := by decide +kernel
theorem dX7_hand_86 : decode cX7_hand 86 = .ok (.iconst 0, 1) := by decide +kernel
theorem dX7_hand_18 : decode cX7_hand 18 = .ok (.aload_n 0, 1) := by decide +kernel
theorem dX7_hand_19 : decode cX7_hand 19 = .ok (.ldc 68, 2) := by decide +kernel
theorem dX7_hand_21 : decode cX7_hand 21 = .ok (.invokevirtual 69, 3) := by decide +kernel
theorem dX7_hand_24 : decode cX7_hand 24 = .ok (.ireturn, 1) := by decide +kernel
theorem dX7_first_0 : decode cX7_first 0 = .ok (.iload_n 1, 1) := by decide +kernel
theorem dX7_first_1 : decode cX7_first 1 = .ok (.iconst 0, 1) := by decide +kernel
theorem dX7_first_2 : decode cX7_first 2 = .ok (.bipush 60, 2) := by decide +kernel
theorem dX7_first_4 : decode cX7_first 4 = .ok (.invokestatic 60, 3) := by decide +kernel
theorem dX7_first_7 : decode cX7_first 7 = .ok (.ifCond .eq 12, 3) := by decide +kernel
theorem dX7_first_10 : decode cX7_first 10 = .ok (.iload_n 2, 1) := by decide +kernel
theorem dX7_first_11 : decode cX7_first 11 = .ok (.iconst 0, 1) := by decide +kernel
theorem dX7_first_12 : decode cX7_first 12 = .ok (.iconst 1, 1) := by decide +kernel
theorem dX7_first_13 : decode cX7_first 13 = .ok (.invokestatic 60, 3) := by decide +kernel
theorem dX7_first_16 : decode cX7_first 16 = .ok (.ifCond .ne 10, 3) := by decide +kernel
theorem dX7_first_26 : decode cX7_first 26 = .ok (.iconst (-1), 1) := by decide +kernel
theorem dX7_first_27 : decode cX7_first 27 = .ok (.istore_n 3, 1) := by decide +kernel
theorem dX7_first_28 : decode cX7_first 28 = .ok (.iconst 0, 1) := by decide +kernel
theorem dX7_first_29 : decode cX7_first 29 = .ok (.istore 4, 2) := by decide +kernel
theorem dX7_first_31 : decode cX7_first 31 = .ok (.iconst 0, 1) := by decide +kernel
theorem dX7_first_32 : decode cX7_first 32 = .ok (.istore 5, 2) := by decide +kernel
theorem dX7_first_34 : decode cX7_first 34 = .ok (.iload 5, 2) := by decide +kernel
theorem dX7_first_36 : decode cX7_first 36 = .ok (.aload_n 0, 1) := by decide +kernel
theorem dX7_first_37 : decode cX7_first 37 = .ok (.getfield 12, 3) := by decide +kernel
theorem dX7_first_40 : decode cX7_first 40 = .ok (.getfield 72, 3) := by decide +kernel
theorem dX7_first_43 : decode cX7_first 43 = .ok (.getfield 86, 3) := by decide +kernel
theorem dX7_first_46 : decode cX7_first 46 = .ok (.if_icmp .ge 60, 3) := by decide +kernel
theorem dX7_first_106 : decode cX7_first 106 = .ok (.iload_n 3, 1) := by decide +kernel
theorem dX7_first_107 : decode cX7_first 107 = .ok (.ifCond .ge 10, 3) := by decide +kernel
theorem dX7_first_117 : decode cX7_first 117 = .ok (.iload_n 2, 1) := by decide +kernel
theorem dX7_first_118 : decode cX7_first 118 = .ok (.ifCond .ne 7, 3) := by decide +kernel
theorem dX7_first_125 : decode cX7_first 125 = .ok (.iload 4, 2) := by decide +kernel
theorem dX7_first_127 : decode cX7_first 127 = .ok (.aload_n 0, 1) := by decide +kernel
theorem dX7_first_128 : decode cX7_first 128 = .ok (.getfield 12, 3) := by decide +kernel
theorem dX7_first_131 : decode cX7_first 131 = .ok (.getfield 72, 3) := by decide +kernel
theorem dX7_first_134 : decode cX7_first 134 = .ok (.getfield 222, 3) := by decide +kernel
theorem dX7_first_137 : decode cX7_first 137 = .ok (.isub, 1) := by decide +kernel
theorem dX7_first_138 : decode cX7_first 138 = .ok (.ireturn, 1) := by decide +kernel
theorem dX7_first_121 : decode cX7_first 121 = .ok (.iload_n 3, 1) := by decide +kernel
theorem dX7_first_122 : decode cX7_first 122 = .ok (.goto 16, 3) := by decide +kernel
theorem dX7_first_110 : decode cX7_first 110 = .ok (.aload_n 0, 1) := by decide +kernel
theorem dX7_first_111 : decode cX7_first 111 = .ok (.ldc 197, 2) := by decide +kernel
theorem dX7_first_113 : decode cX7_first 113 = .ok (.invokevirtual 69, 3) := by decide +kernel
theorem dX7_first_116 : decode cX7_first 116 = .ok (.ireturn, 1) := by decide +kernel
theorem dX7_first_49 : decode cX7_first 49 = .ok (.aload_n 0, 1) := by decide +kernel
theorem dX7_first_50 : decode cX7_first 50 = .ok (.invokevirtual 191, 3) := by decide +kernel
theorem dX7_first_53 : decode cX7_first 53 = .ok (.aload_n 0, 1) := by decide +kernel
theorem dX7_first_54 : decode cX7_first 54 = .ok (.getfield 31, 3) := by decide +kernel
theorem dX7_first_57 : decode cX7_first 57 = .ok (.getfield 91, 3) := by decide +kernel
theorem dX7_first_60 : decode cX7_first 60 = .ok (.iload 5, 2) := by decide +kernel
theorem dX7_first_62 : decode cX7_first 62 = .ok (.aaload, 1) := by decide +kernel
theorem dX7_first_63 : decode cX7_first 63 = .ok (.iconst 1, 1) := by decide +kernel
theorem dX7_first_64 : decode cX7_first 64 = .ok (.putfield 110, 3) := by decide +kernel
theorem dX7_first_67 : decode cX7_first 67 = .ok (.aload_n 0, 1) := by decide +kernel
theorem dX7_first_68 : decode cX7_first 68 = .ok (.iload_n 1, 1) := by decide +kernel
theorem dX7_first_69 : decode cX7_first 69 = .ok (.invokevirtual 219, 3) := by decide +kernel
theorem dX7_first_72 : decode cX7_first 72 = .ok (.iload_n 3, 1) := by decide +kernel
theorem dX7_first_73 : decode cX7_first 73 = .ok (.ifCond .lt 15, 3) := by decide +kernel
theorem dX7_first_88 : decode cX7_first 88 = .ok (.iload 5, 2) := by decide +kernel
theorem dX7_first_90 : decode cX7_first 90 = .ok (.istore_n 3, 1) := by decide +kernel
theorem dX7_first_91 : decode cX7_first 91 = .ok (.aload_n 0, 1) := by decide +kernel
theorem dX7_first_92 : decode cX7_first 92 = .ok (.getfield 31, 3) := by decide +kernel
theorem dX7_first_95 : decode cX7_first 95 = .ok (.getfield 222, 3) := by decide +kernel
theorem dX7_first_98 : decode cX7_first 98 = .ok (.istore 4, 2) := by decide +kernel
theorem dX7_first_100 : decode cX7_first 100 = .ok (.iinc 5 1, 3) := by decide +kernel
theorem dX7_first_103 : decode cX7_first 103 = .ok (.goto (-69), 3) := by decide +kernel
theorem dX7_first_76 : decode cX7_first 76 = .ok (.aload_n 0, 1) := by decide +kernel
theorem dX7_first_77 : decode cX7_first 77 = .ok (.getfield 31, 3) := by decide +kernel
theorem dX7_first_80 : decode cX7_first 80 = .ok (.getfield 222, 3) := by decide +kernel
theorem dX7_first_83 : decode cX7_first 83 = .ok (.iload 4, 2) := by decide +kernel
theorem dX7_first_85 : decode cX7_first 85 = .ok (.if_icmp .ge 15, 3) := by decide +kernel
theorem dX7_first_19 : decode cX7_first 19 = .ok (.aload_n 0, 1) := by decide +kernel
theorem dX7_first_20 : decode cX7_first 20 = .ok (.ldc 68, 2) := by decide +kernel
theorem dX7_first_22 : decode cX7_first 22 = .ok (.invokevirtual 69, 3) := by decide +kernel
theorem dX7_first_25 : decode cX7_first 25 = .ok (.ireturn, 1) := by decide +kernel
theorem dX7_check_0 : decode cX7_check 0 = .ok (.aload_n 0, 1) := by decide +kernel
theorem dX7_check_1 : decode cX7_check 1 = .ok (.getfield 12, 3) := by decide +kernel
theorem dX7_check_4 : decode cX7_check 4 = .ok (.getfield 304, 3) := by decide +kernel
theorem dX7_check_7 : decode cX7_check 7 = .ok (.istore_n 1, 1) := by decide +kernel
theorem dX7_check_8 : decode cX7_check 8 = .ok (.aload_n 0, 1) := by decide +kernel
theorem dX7_check_9 : decode cX7_check 9 = .ok (.getfield 12, 3) := by decide +kernel
theorem dX7_check_12 : decode cX7_check 12 = .ok (.iconst 0, 1) := by decide +kernel
theorem dX7_check_13 : decode cX7_check 13 = .ok (.putfield 304, 3) := by decide +kernel
theorem dX7_check_16 : decode cX7_check 16 = .ok (.aload_n 0, 1) := by decide +kernel
theorem dX7_check_17 : decode cX7_check 17 = .ok (.invokevirtual 191, 3) := by decide +kernel
theorem dX7_check_20 : decode cX7_check 20 = .ok (.iconst 0, 1) := by decide +kernel
theorem dX7_check_21 : decode cX7_check 21 = .ok (.istore_n 2, 1) := by decide +kernel
theorem dX7_check_22 : decode cX7_check 22 = .ok (.iload_n 2, 1) := by decide +kernel
theorem dX7_check_23 : decode cX7_check 23 = .ok (.iload_n 1, 1) := by decide +kernel
theorem dX7_check_24 : decode cX7_check 24 = .ok (.if_icmp .ge 40, 3) := by decide +kernel
theorem dX7_check_64 : decode cX7_check 64 = .ok (.iconst 0, 1) := by decide +kernel
theorem dX7_check_65 : decode cX7_check 65 = .ok (.ireturn, 1) := by decide +kernel
theorem dX7_check_27 : decode cX7_check 27 = .ok (.aload_n 0, 1) := by decide +kernel
theorem dX7_check_28 : decode cX7_check 28 = .ok (.getfield 31, 3) := by decide +kernel
theorem dX7_check_31 : decode cX7_check 31 = .ok (.iconst 0, 1) := by decide +kernel
theorem dX7_check_32 : decode cX7_check 32 = .ok (.invokevirtual 178, 3) := by decide +kernel
theorem dX7_check_35 : decode cX7_check 35 = .ok (.aload_n 0, 1) := by decide +kernel
theorem dX7_check_36 : decode cX7_check 36 = .ok (.getfield 12, 3) := by decide +kernel
theorem dX7_check_39 : decode cX7_check 39 = .ok (.getfield 307, 3) := by decide +kernel
theorem dX7_check_42 : decode cX7_check 42 = .ok (.iload_n 2, 1) := by decide +kernel
theorem dX7_check_43 : decode cX7_check 43 = .ok (.iaload, 1) := by decide +kernel
theorem dX7_check_44 : decode cX7_check 44 = .ok (.aload_n 0, 1) := by decide +kernel
theorem dX7_check_45 : decode cX7_check 45 = .ok (.getfield 31, 3) := by decide +kernel
theorem dX7_check_48 : decode cX7_check 48 = .ok (.invokevirtual 182, 3) := by decide +kernel
theorem dX7_check_51 : decode cX7_check 51 = .ok (.if_icmp .eq 7, 3) := by decide +kernel
theorem dX7_check_58 : decode cX7_check 58 = .ok (.iinc 2 1, 3) := by decide +kernel
theorem dX7_check_61 : decode cX7_check 61 = .ok (.goto (-39), 3) := by decide +kernel
theorem dX7_check_54 : decode cX7_check 54 = .ok (.iconst 1, 1) := by decide +kernel
theorem dX7_check_55 : decode cX7_check 55 = .ok (.iload_n 2, 1) := by decide +kernel
theorem dX7_check_56 : decode cX7_check 56 = .ok (.iadd, 1) := by decide +kernel
theorem dX7_check_57 : decode cX7_check 57 = .ok (.ireturn, 1) := by decide +kernel
set_option maxRecDepth 100000 in
set_option maxHeartbeats 4000000 in
theorem g_setHangingOn (l : Launch) (D : va_G) (y : wY) (ad : Nat → Nat) (M : Mem) (n : Nat) (hn : n ≤ 9) (hm : M 12 3 = nI n) (q : Nat) (hq : q < n) : MI l D y ad yX0_setHangingOn (Cond.code yX0_setHangingOn cX0_setHangingOn 5 (some .int)) 0 M [.ref (ad 12), .int (nI q)] (fun _ M' => M = M') := by
  refine MI_of (by decide) (Nat.le_of_ble_eq_true rfl) ?_
  intro p e s m args below meth c X hr hlocks
  refine j_lv (lv1 := [(0, .ref (ad 12)), (1, .int (nI q))]) [0, 1] rfl ?_
  refine j_iconst X (v := 0) (by decide) dX0_setHangingOn_0 ?_
  refine j_istore_n X [(2, .int 0), (0, .ref (ad 12)), (1, .int (nI q))] rfl (by decide) rfl dX0_setHangingOn_1 ?_
  refine j_iload_n X 2 rfl rfl dX0_setHangingOn_2 ?_
  refine j_iconst X (v := 1) (by decide) dX0_setHangingOn_3 ?_
  refine j_iadd X dX0_setHangingOn_4 ?_
  refine j_eqi (v := nI (q + 1)) (nI_1 q) ?_
  refine j_istore_n X [(3, .int (nI (q + 1))), (2, .int 0), (0, .ref (ad 12)), (1, .int (nI q))] rfl (by decide) rfl dX0_setHangingOn_5 ?_
  have loop1 : ∀ (n_1 i_1 : Nat) (v2_i_1 : Int32), i_1 ≤ n → n - i_1 < n_1 → J p l e (rmN 0) s m args below meth c 0 0 (QI (fun _ M' => M = M') D y ad M s args below) D y ad (va_A (PL y ad M) s.heap.size) 5 M 6 [(3, .int (nI i_1)), (0, .ref (ad 12)), (1, .int (nI q)), (2, .int v2_i_1)] [] := by
    intro n_1
    induction n_1 with
    | zero => intro i_1  v2_i_1 h1 h2; exact absurd h2 (by omega)
    | succ n_1 ih1 =>
      intro i_1  v2_i_1 h1i_1 h2i_1 
      refine j_iload_n X 0 rfl rfl dX0_setHangingOn_6 ?_
      refine j_aload_n X 1 rfl rfl dX0_setHangingOn_7 ?_
      refine j_get X (by decide) (wE_0 _ rfl) rfl awF0 3 (by decide) aw_155 rfl (v := .int (M 12 3)) rfl dX0_setHangingOn_8 ?_
      refine j_eqi (v := (nI n)) hm ?_
      refine j_icmp_ge X 57 (by decide) dX0_setHangingOn_11 (fun c_2 => ?_) (fun c_2 => ?_)
      · have c_2 := (nI_leI (by omega) (by omega)).mp (show nI (n) ≤ nI i_1 from c_2)
        refine j_iload_n X 3 rfl rfl dX0_setHangingOn_57 ?_
        exact j_iret X hr hlocks dX0_setHangingOn_58 rfl
      · have c_2 : i_1 < n := by
          rcases Nat.lt_or_ge i_1 (n) with g | g
          · exact g
          · exact absurd (show nI (n) ≤ nI i_1 from nI_le g (by omega)) c_2
        refine j_aload_n X 1 rfl rfl dX0_setHangingOn_14 ?_
        refine j_get X (by decide) (wE_0 _ rfl) rfl awF0 2 (by decide) aw_60 rfl (v := .ref (ad 13)) rfl dX0_setHangingOn_15 ?_
        refine j_iload_n X 0 rfl rfl dX0_setHangingOn_18 ?_
        refine j_aald10 X (by decide) rfl (show vp_in (nI i_1) 9 from vp_in_nI (by omega) (by decide)) dX0_setHangingOn_19 ?_
        refine j_eqr (v := 14 + i_1) (by rw [nI_clamp (by omega)]; exact rf_one12 (by omega)) ?_
        refine j_getN X (by omega) (wE_1 _ (kd_one12 (by omega))) rfl awF1 4 (by decide) (List.mem_of_getElem? (i := 9) rfl) rfl (v := .int (M (14 + i_1) 4)) rfl dX0_setHangingOn_20 ?_
        refine j_istore X [(4, .int (M (14 + i_1) 4)), (3, .int (nI i_1)), (0, .ref (ad 12)), (1, .int (nI q)), (2, .int v2_i_1)] (by decide) rfl dX0_setHangingOn_23 ?_
        refine j_iload X 0 rfl dX0_setHangingOn_25 ?_
        refine j_iload_n X 3 rfl rfl dX0_setHangingOn_27 ?_
        refine j_icmp_eq X 45 (by decide) dX0_setHangingOn_28 (fun c_3 => ?_) (fun c_3 => ?_)
        · refine j_iload_n X 4 rfl rfl dX0_setHangingOn_45 ?_
          refine j_iconst X (v := 1) (by decide) dX0_setHangingOn_46 ?_
          refine j_iload_n X 1 rfl rfl dX0_setHangingOn_47 ?_
          refine j_ishl X dX0_setHangingOn_48 ?_
          refine j_ior X dX0_setHangingOn_49 ?_
          refine j_istore_n X [(2, .int (v2_i_1 ||| (1 <<< ((nI i_1) &&& 31)))), (4, .int (M (14 + i_1) 4)), (3, .int (nI i_1)), (0, .ref (ad 12)), (1, .int (nI q))] rfl (by decide) rfl dX0_setHangingOn_50 ?_
          refine j_iinc X (v := (nI (i_1 + 1))) 2 [(3, .int (nI (i_1 + 1))), (2, .int (v2_i_1 ||| (1 <<< ((nI i_1) &&& 31)))), (4, .int (M (14 + i_1) 4)), (0, .ref (ad 12)), (1, .int (nI q))] rfl (show nI i_1 + Int32.ofInt 1 = _ from nI_1 i_1) (by decide) rfl dX0_setHangingOn_51 ?_
          refine j_goto X 6 (by decide) dX0_setHangingOn_54 ?_
          refine j_lv (lv1 := [(3, .int (nI (i_1 + 1))), (0, .ref (ad 12)), (1, .int (nI q)), (2, .int (v2_i_1 ||| (1 <<< ((nI i_1) &&& 31))))]) [0, 3, 4, 1] rfl ?_
          exact ih1 (i_1 + 1) _ (by omega) (by omega) 
        · refine j_iload X 0 rfl dX0_setHangingOn_31 ?_
          refine j_if_lt X 51 (by decide) dX0_setHangingOn_33 (fun c_4 => ?_) (fun c_4 => ?_)
          · have qc_4 := ti_lt (a := (M (14 + i_1) 4).toInt) (b := 0) rfl (by decide) c_4
            refine j_iinc X (v := (nI (i_1 + 1))) 1 [(3, .int (nI (i_1 + 1))), (4, .int (M (14 + i_1) 4)), (0, .ref (ad 12)), (1, .int (nI q)), (2, .int v2_i_1)] rfl (show nI i_1 + Int32.ofInt 1 = _ from nI_1 i_1) (by decide) rfl dX0_setHangingOn_51 ?_
            refine j_goto X 6 (by decide) dX0_setHangingOn_54 ?_
            refine j_lv (lv1 := [(3, .int (nI (i_1 + 1))), (0, .ref (ad 12)), (1, .int (nI q)), (2, .int v2_i_1)]) [0, 2, 3, 4] rfl ?_
            exact ih1 (i_1 + 1) _ (by omega) (by omega) 
          · have qc_4 := ti_nlt (a := (M (14 + i_1) 4).toInt) (b := 0) rfl (by decide) c_4
            refine j_iload_n X 4 rfl rfl dX0_setHangingOn_36 ?_
            refine j_iload X 0 rfl dX0_setHangingOn_37 ?_
            refine j_ishr X dX0_setHangingOn_39 ?_
            refine j_iconst X (v := 1) (by decide) dX0_setHangingOn_40 ?_
            refine j_iand X dX0_setHangingOn_41 ?_
            refine j_if_eq X 51 (by decide) dX0_setHangingOn_42 (fun c_5 => ?_) (fun c_5 => ?_)
            · have qc_5 := ti_eq (n := 0) (by decide) c_5
              refine j_iinc X (v := (nI (i_1 + 1))) 1 [(3, .int (nI (i_1 + 1))), (4, .int (M (14 + i_1) 4)), (0, .ref (ad 12)), (1, .int (nI q)), (2, .int v2_i_1)] rfl (show nI i_1 + Int32.ofInt 1 = _ from nI_1 i_1) (by decide) rfl dX0_setHangingOn_51 ?_
              refine j_goto X 6 (by decide) dX0_setHangingOn_54 ?_
              refine j_lv (lv1 := [(3, .int (nI (i_1 + 1))), (0, .ref (ad 12)), (1, .int (nI q)), (2, .int v2_i_1)]) [0, 2, 3, 4] rfl ?_
              exact ih1 (i_1 + 1) _ (by omega) (by omega) 
            · have qc_5 := ti_ne (n := 0) (by decide) c_5
              refine j_iload_n X 4 rfl rfl dX0_setHangingOn_45 ?_
              refine j_iconst X (v := 1) (by decide) dX0_setHangingOn_46 ?_
              refine j_iload_n X 1 rfl rfl dX0_setHangingOn_47 ?_
              refine j_ishl X dX0_setHangingOn_48 ?_
              refine j_ior X dX0_setHangingOn_49 ?_
              refine j_istore_n X [(2, .int (v2_i_1 ||| (1 <<< ((nI i_1) &&& 31)))), (4, .int (M (14 + i_1) 4)), (3, .int (nI i_1)), (0, .ref (ad 12)), (1, .int (nI q))] rfl (by decide) rfl dX0_setHangingOn_50 ?_
              refine j_iinc X (v := (nI (i_1 + 1))) 2 [(3, .int (nI (i_1 + 1))), (2, .int (v2_i_1 ||| (1 <<< ((nI i_1) &&& 31)))), (4, .int (M (14 + i_1) 4)), (0, .ref (ad 12)), (1, .int (nI q))] rfl (show nI i_1 + Int32.ofInt 1 = _ from nI_1 i_1) (by decide) rfl dX0_setHangingOn_51 ?_
              refine j_goto X 6 (by decide) dX0_setHangingOn_54 ?_
              refine j_lv (lv1 := [(3, .int (nI (i_1 + 1))), (0, .ref (ad 12)), (1, .int (nI q)), (2, .int (v2_i_1 ||| (1 <<< ((nI i_1) &&& 31))))]) [0, 3, 4, 1] rfl ?_
              exact ih1 (i_1 + 1) _ (by omega) (by omega) 
  refine j_lv (lv1 := [(3, .int (nI (q + 1))), (0, .ref (ad 12)), (1, .int (nI q)), (2, .int 0)]) [0, 2, 3, 1] rfl ?_
  exact loop1 (n + 1) (q + 1) _ (by omega) (by omega)
set_option maxRecDepth 100000 in
set_option maxHeartbeats 4000000 in
theorem g_setItHangsOn (l : Launch) (D : va_G) (y : wY) (ad : Nat → Nat) (M : Mem) (q : Nat) (hq : q < 9) : MI l D y ad yX0_setItHangsOn (Cond.code yX0_setItHangsOn cX0_setItHangsOn 4 (some .int)) 0 M [.ref (ad 12), .int (nI q)] (fun _ M' => M = M') := by
  refine MI_of (by decide) (Nat.le_of_ble_eq_true rfl) ?_
  intro p e s m args below meth c X hr hlocks
  refine j_lv (lv1 := [(0, .ref (ad 12)), (1, .int (nI q))]) [0, 1] rfl ?_
  refine j_iconst X (v := 1) (by decide) dX0_setItHangsOn_0 ?_
  refine j_iload_n X 1 rfl rfl dX0_setItHangsOn_1 ?_
  refine j_ishl X dX0_setItHangsOn_2 ?_
  refine j_istore_n X [(2, .int (1 <<< ((nI q) &&& 31))), (0, .ref (ad 12)), (1, .int (nI q))] rfl (by decide) rfl dX0_setItHangsOn_3 ?_
  refine j_iload_n X 2 rfl rfl dX0_setItHangsOn_4 ?_
  refine j_istore_n X [(3, .int (nI q)), (2, .int (1 <<< ((nI q) &&& 31))), (0, .ref (ad 12)), (1, .int (nI q))] rfl (by decide) rfl dX0_setItHangsOn_5 ?_
  have loop1 : ∀ (i_1 : Nat) (v2_i_1 : Int32), i_1 ≤ 8 → J p l e (rmN 0) s m args below meth c 0 0 (QI (fun _ M' => M = M') D y ad M s args below) D y ad (va_A (PL y ad M) s.heap.size) 4 M 6 [(3, .int (nI i_1)), (0, .ref (ad 12)), (1, .int (nI q)), (2, .int v2_i_1)] [] := by
    intro i_1
    induction i_1 with
    | zero =>
      intro v2_i_1 h1i_1
      refine j_lv (lv1 := [(3, .int 0), (0, .ref (ad 12)), (1, .int (nI q)), (2, .int v2_i_1)]) [0, 1, 2, 3] rfl ?_
      refine j_iload_n X 0 rfl rfl dX0_setItHangsOn_6 ?_
      refine j_if_le X 50 (by decide) dX0_setItHangsOn_7 (fun c_2 => ?_) (fun c_2 => False.elim (by revert c_2; decide))
      refine j_iload_n X 3 rfl rfl dX0_setItHangsOn_50 ?_
      exact j_iret X hr hlocks dX0_setItHangsOn_51 rfl
    | succ i_1 ih1 =>
      intro v2_i_1 h1i_1
      refine j_iload_n X 0 rfl rfl dX0_setItHangsOn_6 ?_
      refine j_if_le X 50 (by decide) dX0_setItHangsOn_7 (fun c_3 => ?_) (fun c_3 => ?_)
      · refine j_iload_n X 3 rfl rfl dX0_setItHangsOn_50 ?_
        exact j_iret X hr hlocks dX0_setItHangsOn_51 rfl
      · refine j_iload_n X 3 rfl rfl dX0_setItHangsOn_10 ?_
        refine j_iload_n X 0 rfl rfl dX0_setItHangsOn_11 ?_
        refine j_ishr X dX0_setItHangsOn_12 ?_
        refine j_iconst X (v := 1) (by decide) dX0_setItHangsOn_13 ?_
        refine j_iand X dX0_setItHangsOn_14 ?_
        refine j_if_eq X 44 (by decide) dX0_setItHangsOn_15 (fun c_4 => ?_) (fun c_4 => ?_)
        · refine j_iinc X (v := (nI i_1)) 0 [(3, .int (nI i_1)), (0, .ref (ad 12)), (1, .int (nI q)), (2, .int v2_i_1)] rfl (nI_dec i_1) (by decide) rfl dX0_setItHangsOn_44 ?_
          refine j_goto X 6 (by decide) dX0_setItHangsOn_47 ?_
          refine j_lv (lv1 := [(3, .int (nI i_1)), (0, .ref (ad 12)), (1, .int (nI q)), (2, .int v2_i_1)]) [0, 1, 2, 3] rfl ?_
          exact ih1 _ (by omega)
        · refine j_aload_n X 1 rfl rfl dX0_setItHangsOn_18 ?_
          refine j_get X (by decide) (wE_0 _ rfl) rfl awF0 2 (by decide) aw_60 rfl (v := .ref (ad 13)) rfl dX0_setItHangsOn_19 ?_
          refine j_iload_n X 0 rfl rfl dX0_setItHangsOn_22 ?_
          refine j_aald10 X (by decide) rfl (show vp_in (nI (i_1 + 1)) 9 from vp_in_nI (by omega) (by decide)) dX0_setItHangsOn_23 ?_
          refine j_eqr (v := 14 + (i_1 + 1)) (by rw [nI_clamp (by omega)]; exact rf_one12 (by omega)) ?_
          refine j_getN X (by omega) (wE_1 _ (kd_one12 (by omega))) rfl awF1 4 (by decide) (List.mem_of_getElem? (i := 9) rfl) rfl (v := .int (M (14 + (i_1 + 1)) 4)) rfl dX0_setItHangsOn_24 ?_
          refine j_if_lt X 44 (by decide) dX0_setItHangsOn_27 (fun c_5 => ?_) (fun c_5 => ?_)
          · have qc_5 := ti_lt (a := (M (14 + (i_1 + 1)) 4).toInt) (b := 0) rfl (by decide) c_5
            refine j_iinc X (v := (nI i_1)) 0 [(3, .int (nI i_1)), (0, .ref (ad 12)), (1, .int (nI q)), (2, .int v2_i_1)] rfl (nI_dec i_1) (by decide) rfl dX0_setItHangsOn_44 ?_
            refine j_goto X 6 (by decide) dX0_setItHangsOn_47 ?_
            refine j_lv (lv1 := [(3, .int (nI i_1)), (0, .ref (ad 12)), (1, .int (nI q)), (2, .int v2_i_1)]) [0, 1, 2, 3] rfl ?_
            exact ih1 _ (by omega)
          · have qc_5 := ti_nlt (a := (M (14 + (i_1 + 1)) 4).toInt) (b := 0) rfl (by decide) c_5
            refine j_iload_n X 3 rfl rfl dX0_setItHangsOn_30 ?_
            refine j_iconst X (v := 1) (by decide) dX0_setItHangsOn_31 ?_
            refine j_aload_n X 1 rfl rfl dX0_setItHangsOn_32 ?_
            refine j_get X (by decide) (wE_0 _ rfl) rfl awF0 2 (by decide) aw_60 rfl (v := .ref (ad 13)) rfl dX0_setItHangsOn_33 ?_
            refine j_iload_n X 0 rfl rfl dX0_setItHangsOn_36 ?_
            refine j_aald10 X (by decide) rfl (show vp_in (nI (i_1 + 1)) 9 from vp_in_nI (by omega) (by decide)) dX0_setItHangsOn_37 ?_
            refine j_eqr (v := 14 + (i_1 + 1)) (by rw [nI_clamp (by omega)]; exact rf_one12 (by omega)) ?_
            refine j_getN X (by omega) (wE_1 _ (kd_one12 (by omega))) rfl awF1 4 (by decide) (List.mem_of_getElem? (i := 9) rfl) rfl (v := .int (M (14 + (i_1 + 1)) 4)) rfl dX0_setItHangsOn_38 ?_
            refine j_ishl X dX0_setItHangsOn_41 ?_
            refine j_ior X dX0_setItHangsOn_42 ?_
            refine j_istore_n X [(2, .int (v2_i_1 ||| (1 <<< ((M (14 + (i_1 + 1)) 4) &&& 31)))), (3, .int (nI (i_1 + 1))), (0, .ref (ad 12)), (1, .int (nI q))] rfl (by decide) rfl dX0_setItHangsOn_43 ?_
            refine j_iinc X (v := (nI i_1)) 1 [(3, .int (nI i_1)), (2, .int (v2_i_1 ||| (1 <<< ((M (14 + (i_1 + 1)) 4) &&& 31)))), (0, .ref (ad 12)), (1, .int (nI q))] rfl (nI_dec i_1) (by decide) rfl dX0_setItHangsOn_44 ?_
            refine j_goto X 6 (by decide) dX0_setItHangsOn_47 ?_
            refine j_lv (lv1 := [(3, .int (nI i_1)), (0, .ref (ad 12)), (1, .int (nI q)), (2, .int (v2_i_1 ||| (1 <<< ((M (14 + (i_1 + 1)) 4) &&& 31))))]) [0, 2, 3, 1] rfl ?_
            exact ih1 _ (by omega)
  refine j_lv (lv1 := [(3, .int (nI q)), (0, .ref (ad 12)), (1, .int (nI q)), (2, .int (1 <<< ((nI q) &&& 31)))]) [0, 2, 3, 1] rfl ?_
  exact loop1 q _ (by omega)
set_option maxRecDepth 100000 in
set_option maxHeartbeats 4000000 in
theorem g_X7_chain (l : Launch) (D : va_G) (y : wY) (ad : Nat → Nat) (M : Mem) (n : Nat) (hn : n ≤ 9) (hm : M 12 3 = nI n) (hB : ∀ q, q < 9 → BoolOK (M (14 + q) 6)) (z2 z7 : Nat) (hT2 : TextOK M 2 z2) (hT7 : TextOK M 7 z7) (q : Int32) : MI l D y ad yX7_chain (Cond.code yX7_chain cX7_chain 2 (some .int)) 9 M [.ref (ad 0), .int q] (fun _ M' => sm (fun b _ => b == 6 || b == 11 || b == 78 || (decide (49 ≤ b) && decide (b ≤ 59))) M M') := by
  refine MI_of (by decide) (Nat.le_of_ble_eq_true rfl) ?_
  intro p e s m args below meth c X hr hlocks
  refine j_lv (lv1 := [(0, .ref (ad 0)), (1, .int q)]) [0, 1] rfl ?_
  refine j_aload_n X 0 rfl rfl dX7_chain_0 ?_
  refine j_iload_n X 1 rfl rfl dX7_chain_1 ?_
  refine j_callVI X (nn := 1) (As := [.int q]) (st := []) (ci := 7) (by decide) (wE_7 _ rfl) rfl aw_191 aw_192 (g_isQuarrel l D y ad M n (by omega) hm q) aw_190 aw_193 aw_2 (by decide +kernel) ⟨by decide, by decide⟩ rfl (Nat.le_of_ble_eq_true rfl) ⟨by decide, by decide⟩ dX7_chain_2 ?_
  rintro r_ M1_ (⟨rfl, rfl, h_1⟩ | ⟨rfl, rfl⟩)
  · refine j_if_ne X 15 (by decide) dX7_chain_5 (fun c_2 => ?_) (fun c_2 => False.elim (by revert c_2; decide))
    obtain ⟨Q, hQ, rfl⟩ := nI_oft (x := q) (n := 8) (by omega) (by omega) (by decide)
    have eQ := nI_toInt (n := Q) (by omega)
    have lQ : Q < n := by omega
    refine j_aload_n X 0 rfl rfl dX7_chain_15 ?_
    refine j_get X (by decide) (wE_7 _ rfl) rfl awF7 0 (by decide) aw_16 rfl (v := .ref (ad 1)) rfl dX7_chain_16 ?_
    refine j_getN X (by decide) (wE_6 _ rfl) rfl awF6 2 (by decide) (List.mem_of_getElem? (i := 23) rfl) rfl (v := .ref (ad 12)) rfl dX7_chain_19 ?_
    refine j_iload_n X 1 rfl rfl dX7_chain_22 ?_
    refine j_callVNI X (nn := 1) (As := [.int (nI Q)]) (st := []) (ci := 0) (by decide) (wE_0 _ rfl) rfl aw_690 aw_691 (g_setHangingOn l D y ad M n (by omega) hm Q (by omega)) (List.mem_of_getElem? (i := 41) rfl) aw_692 aw_20 (by decide +kernel) ⟨by decide, by decide⟩ rfl (Nat.le_of_ble_eq_true rfl) ⟨by decide, by decide⟩ dX7_chain_23 ?_
    rintro r_3 M1_ rfl
    refine j_aload_n X 0 rfl rfl dX7_chain_26 ?_
    refine j_get X (by decide) (wE_7 _ rfl) rfl awF7 0 (by decide) aw_16 rfl (v := .ref (ad 1)) rfl dX7_chain_27 ?_
    refine j_getN X (by decide) (wE_6 _ rfl) rfl awF6 2 (by decide) (List.mem_of_getElem? (i := 23) rfl) rfl (v := .ref (ad 12)) rfl dX7_chain_30 ?_
    refine j_callVNI X (nn := 0) (As := []) (st := [.int r_3]) (ci := 0) (by decide) (wE_0 _ rfl) rfl aw_466 aw_467 (g_setEnded_12 l D y ad M n (by omega) hm) (List.mem_of_getElem? (i := 35) rfl) aw_468 aw_20 (by decide +kernel) ⟨by decide, by decide⟩ rfl (Nat.le_of_ble_eq_true rfl) ⟨by decide, by decide⟩ dX7_chain_33 ?_
    rintro r_ M1_ ⟨rfl, rfl⟩
    refine j_iconst X (v := (-1)) (by decide) dX7_chain_36 ?_
    refine j_ixor X dX7_chain_37 ?_
    refine j_iand X dX7_chain_38 ?_
    exact j_iret X hr hlocks dX7_chain_39 sm_rf
  · refine j_if_ne X 15 (by decide) dX7_chain_5 (fun c_4 => False.elim (by revert c_4; decide)) (fun c_4 => ?_)
    refine j_aload_n X 0 rfl rfl dX7_chain_8 ?_
    refine j_ldc X (v := (-1000000001)) aw_108 dX7_chain_9 ?_
    refine j_callVI X (nn := 1) (As := [.int (-1000000001)]) (st := []) (ci := 7) (by decide) (wE_7 _ rfl) rfl aw_117 aw_118 (g_refuse l D y ad M (-1000000001) 1 (by decide) (by decide)) aw_116 aw_119 aw_2 (by decide +kernel) ⟨by decide, by decide⟩ rfl (Nat.le_of_ble_eq_true rfl) ⟨by decide, by decide⟩ dX7_chain_11 ?_
    rintro r_ M_6 ⟨rfl, s_5⟩
    exact j_iret X hr hlocks dX7_chain_14 (sm_tr sm_rf (sm_w s_5 (by intro b k hb; first | rfl | exact hb | (simp only [Bool.or_eq_false_iff, Bool.and_eq_false_iff, beq_eq_false_iff_ne, ne_eq, decide_eq_false_iff_not] at hb ⊢; omega))))
set_option maxRecDepth 100000 in
set_option maxHeartbeats 4000000 in
theorem g_X7_free (l : Launch) (D : va_G) (y : wY) (ad : Nat → Nat) (M : Mem) (n : Nat) (hn : n ≤ 9) (hm : M 12 3 = nI n) (hB : ∀ q, q < 9 → BoolOK (M (14 + q) 6)) (z2 z7 : Nat) (hT2 : TextOK M 2 z2) (hT7 : TextOK M 7 z7) : MI l D y ad yX7_free (Cond.code yX7_free cX7_free 1 (some .int)) 9 M [.ref (ad 0)] (fun _ M' => sm (fun b _ => b == 6 || b == 11 || b == 78 || (decide (49 ≤ b) && decide (b ≤ 59))) M M') := by
  refine MI_of (by decide) (Nat.le_of_ble_eq_true rfl) ?_
  intro p e s m args below meth c X hr hlocks
  refine j_lv (lv1 := [(0, .ref (ad 0))]) [0] rfl ?_
  refine j_aload_n X 0 rfl rfl dX7_free_0 ?_
  refine j_get X (by decide) (wE_7 _ rfl) rfl awF7 0 (by decide) aw_16 rfl (v := .ref (ad 1)) rfl dX7_free_1 ?_
  refine j_getN X (by decide) (wE_6 _ rfl) rfl awF6 2 (by decide) (List.mem_of_getElem? (i := 23) rfl) rfl (v := .ref (ad 12)) rfl dX7_free_4 ?_
  refine j_callVNI X (nn := 0) (As := []) (st := []) (ci := 0) (by decide) (wE_0 _ rfl) rfl aw_709 aw_710 (g_setFree_12 l D y ad M n (by omega) hm) (List.mem_of_getElem? (i := 42) rfl) aw_711 aw_20 (by decide +kernel) ⟨by decide, by decide⟩ rfl (Nat.le_of_ble_eq_true rfl) ⟨by decide, by decide⟩ dX7_free_7 ?_
  rintro r_1 M1_ rfl
  exact j_iret X hr hlocks dX7_free_10 sm_rf
set_option maxRecDepth 100000 in
set_option maxHeartbeats 4000000 in
theorem g_X7_hand (l : Launch) (D : va_G) (y : wY) (ad : Nat → Nat) (M : Mem) (n : Nat) (hn : n ≤ 9) (hm : M 12 3 = nI n) (hB : ∀ q, q < 9 → BoolOK (M (14 + q) 6)) (z2 z7 : Nat) (hT2 : TextOK M 2 z2) (hT7 : TextOK M 7 z7) (q nn : Int32) : MI l D y ad yX7_hand (Cond.code yX7_hand cX7_hand 7 (some .int)) 9 M [.ref (ad 0), .int q, .int nn] (fun _ M' => sm (fun b _ => b == 6 || b == 11 || b == 78 || (decide (49 ≤ b) && decide (b ≤ 59))) M M') := by
  refine MI_of (by decide) (Nat.le_of_ble_eq_true rfl) ?_
  intro p e s m args below meth c X hr hlocks
  refine j_lv (lv1 := [(0, .ref (ad 0)), (1, .int q), (2, .int nn)]) [0, 1, 2] rfl ?_
  refine j_aload_n X 0 rfl rfl dX7_hand_0 ?_
  refine j_iload_n X 1 rfl rfl dX7_hand_1 ?_
  refine j_callVI X (nn := 1) (As := [.int q]) (st := []) (ci := 7) (by decide) (wE_7 _ rfl) rfl aw_191 aw_192 (g_isQuarrel l D y ad M n (by omega) hm q) aw_190 aw_193 aw_2 (by decide +kernel) ⟨by decide, by decide⟩ rfl (Nat.le_of_ble_eq_true rfl) ⟨by decide, by decide⟩ dX7_hand_2 ?_
  rintro r_ M1_ (⟨rfl, rfl, h_1⟩ | ⟨rfl, rfl⟩)
  · refine j_if_eq X 18 (by decide) dX7_hand_5 (fun c_2 => False.elim (by revert c_2; decide)) (fun c_2 => ?_)
    refine j_iload_n X 2 rfl rfl dX7_hand_8 ?_
    refine j_iconst X (v := 0) (by decide) dX7_hand_9 ?_
    refine j_bipush X (v := 20) (by decide) dX7_hand_10 ?_
    refine j_callSI X (nn := 3) (As := [.int nn, .int 0, .int 20]) (st := []) aw_110 (g_X7_isWithin l D y ad M nn 0 20 0 20 (by decide) (by decide)) aw_109 aw_111 aw_2 (by decide +kernel) ⟨by decide, by decide⟩ rfl (Nat.le_of_ble_eq_true rfl) ⟨by decide, by decide⟩ dX7_hand_12 ?_
    rintro r_ M1_ (⟨rfl, rfl, h_3⟩ | ⟨rfl, rfl, h_3⟩)
    · refine j_if_ne X 25 (by decide) dX7_hand_15 (fun c_4 => ?_) (fun c_4 => False.elim (by revert c_4; decide))
      obtain ⟨Q, hQ, rfl⟩ := nI_oft (x := q) (n := 8) (by omega) (by omega) (by decide)
      have eQ := nI_toInt (n := Q) (by omega)
      have lQ : Q < n := by omega
      obtain ⟨N, hN, rfl⟩ := nI_oft (x := nn) (n := 20) (by omega) (by omega) (by decide)
      refine j_aload_n X 0 rfl rfl dX7_hand_25 ?_
      refine j_get X (by decide) (wE_7 _ rfl) rfl awF7 0 (by decide) aw_16 rfl (v := .ref (ad 1)) rfl dX7_hand_26 ?_
      refine j_getN X (by decide) (wE_6 _ rfl) rfl awF6 2 (by decide) (List.mem_of_getElem? (i := 23) rfl) rfl (v := .ref (ad 12)) rfl dX7_hand_29 ?_
      refine j_iload_n X 1 rfl rfl dX7_hand_32 ?_
      refine j_callVNI X (nn := 1) (As := [.int (nI Q)]) (st := []) (ci := 0) (by decide) (wE_0 _ rfl) rfl aw_602 aw_603 (g_setItHangsOn l D y ad M Q (by omega)) (List.mem_of_getElem? (i := 36) rfl) aw_604 aw_20 (by decide +kernel) ⟨by decide, by decide⟩ rfl (Nat.le_of_ble_eq_true rfl) ⟨by decide, by decide⟩ dX7_hand_33 ?_
      rintro r_5 M1_ rfl
      refine j_aload_n X 0 rfl rfl dX7_hand_36 ?_
      refine j_get X (by decide) (wE_7 _ rfl) rfl awF7 0 (by decide) aw_16 rfl (v := .ref (ad 1)) rfl dX7_hand_37 ?_
      refine j_getN X (by decide) (wE_6 _ rfl) rfl awF6 2 (by decide) (List.mem_of_getElem? (i := 23) rfl) rfl (v := .ref (ad 12)) rfl dX7_hand_40 ?_
      refine j_callVNI X (nn := 0) (As := []) (st := [.int r_5]) (ci := 0) (by decide) (wE_0 _ rfl) rfl aw_466 aw_467 (g_setEnded_12 l D y ad M n (by omega) hm) (List.mem_of_getElem? (i := 35) rfl) aw_468 aw_20 (by decide +kernel) ⟨by decide, by decide⟩ rfl (Nat.le_of_ble_eq_true rfl) ⟨by decide, by decide⟩ dX7_hand_43 ?_
      rintro r_ M1_ ⟨rfl, rfl⟩
      refine j_iconst X (v := (-1)) (by decide) dX7_hand_46 ?_
      refine j_ixor X dX7_hand_47 ?_
      refine j_iand X dX7_hand_48 ?_
      refine j_topi (fun g_6 _ => ?_)
      refine j_istore_n X [(3, .int g_6), (0, .ref (ad 0)), (1, .int (nI Q)), (2, .int (nI N))] rfl (by decide) rfl dX7_hand_49 ?_
      refine j_iconst X (v := (-1)) (by decide) dX7_hand_50 ?_
      refine j_istore X [(4, .int (-1)), (3, .int g_6), (0, .ref (ad 0)), (1, .int (nI Q)), (2, .int (nI N))] (by decide) rfl dX7_hand_51 ?_
      refine j_iconst X (v := 0) (by decide) dX7_hand_53 ?_
      refine j_istore X [(5, .int 0), (4, .int (-1)), (3, .int g_6), (0, .ref (ad 0)), (1, .int (nI Q)), (2, .int (nI N))] (by decide) rfl dX7_hand_54 ?_
      have loop7 : ∀ (n_7 i_7 : Nat) (M7 : Mem) (v4_i_7 : Int32), i_7 ≤ 512 → 512 - i_7 < n_7 → sm (fun b _ => b == 6 || b == 11 || b == 78 || (decide (49 ≤ b) && decide (b ≤ 59))) M M7 → J p l e (rmN 9) s m args below meth c 0 0 (QI (fun _ M' => sm (fun b _ => b == 6 || b == 11 || b == 78 || (decide (49 ≤ b) && decide (b ≤ 59))) M M') D y ad M s args below) D y ad (va_A (PL y ad M) s.heap.size) 7 M7 56 [(5, .int (nI i_7)), (0, .ref (ad 0)), (1, .int (nI Q)), (2, .int (nI N)), (3, .int g_6), (4, .int v4_i_7)] [] := by
        intro n_7
        induction n_7 with
        | zero => intro i_7 M7 v4_i_7 h1 h2; exact absurd h2 (by omega)
        | succ n_7 ih7 =>
          intro i_7 M7 v4_i_7 h1i_7 h2i_7 hs7
          refine j_iload X 0 rfl dX7_hand_56 ?_
          refine j_sipush X (v := 512) (by decide) dX7_hand_58 ?_
          refine j_icmp_ge X 135 (by decide) dX7_hand_61 (fun c_8 => ?_) (fun c_8 => ?_)
          · have c_8 := (nI_leI (by omega) (by omega)).mp (show nI (512) ≤ nI i_7 from c_8)
            refine j_iload X 5 rfl dX7_hand_135 ?_
            refine j_if_ge X 149 (by decide) dX7_hand_137 (fun c_9 => ?_) (fun c_9 => ?_)
            · have qc_9 := ti_le (a := 0) (b := v4_i_7.toInt) (by decide) rfl c_9
              refine j_iload X 5 rfl dX7_hand_149 ?_
              exact j_iret X hr hlocks dX7_hand_151 (sm_tr sm_rf (sm_w hs7 (by intro b k hb; first | rfl | exact hb | (simp only [Bool.or_eq_false_iff, Bool.and_eq_false_iff, beq_eq_false_iff_ne, ne_eq, decide_eq_false_iff_not] at hb ⊢; omega))))
            · have qc_9 := ti_nle (a := 0) (b := v4_i_7.toInt) (by decide) rfl c_9
              refine j_aload_n X 1 rfl rfl dX7_hand_140 ?_
              refine j_ldc X (v := (-1000000002)) aw_560 dX7_hand_141 ?_
              refine j_callVI X (nn := 1) (As := [.int (-1000000002)]) (st := []) (ci := 7) (by decide) (wE_7 _ rfl) rfl aw_117 aw_118 (g_refuse l D y ad M7 (-1000000002) 2 (by decide) (by decide)) aw_116 aw_119 aw_2 (by decide +kernel) ⟨by decide, by decide⟩ rfl (Nat.le_of_ble_eq_true rfl) ⟨by decide, by decide⟩ dX7_hand_143 ?_
              rintro r_ M_11 ⟨rfl, s_10⟩
              refine j_goto X 151 (by decide) dX7_hand_146 ?_
              exact j_iret X hr hlocks dX7_hand_151 (sm_tr (sm_tr sm_rf (sm_w hs7 (by intro b k hb; first | rfl | exact hb | (simp only [Bool.or_eq_false_iff, Bool.and_eq_false_iff, beq_eq_false_iff_ne, ne_eq, decide_eq_false_iff_not] at hb ⊢; omega)))) (sm_w s_10 (by intro b k hb; first | rfl | exact hb | (simp only [Bool.or_eq_false_iff, Bool.and_eq_false_iff, beq_eq_false_iff_ne, ne_eq, decide_eq_false_iff_not] at hb ⊢; omega))))
          · have c_8 : i_7 < 512 := by
              rcases Nat.lt_or_ge i_7 (512) with g | g
              · exact g
              · exact absurd (show nI (512) ≤ nI i_7 from nI_le g (by omega)) c_8
            refine j_iload X 5 rfl dX7_hand_64 ?_
            refine j_if_lt X 82 (by decide) dX7_hand_66 (fun c_12 => ?_) (fun c_12 => ?_)
            · have qc_12 := ti_lt (a := v4_i_7.toInt) (b := 0) rfl (by decide) c_12
              refine j_iconst X (v := 1) (by decide) dX7_hand_82 ?_
              refine j_goto X 87 (by decide) dX7_hand_83 ?_
              refine j_istore X [(6, .int 1), (5, .int (nI i_7)), (0, .ref (ad 0)), (1, .int (nI Q)), (2, .int (nI N)), (3, .int g_6), (4, .int v4_i_7)] (by decide) rfl dX7_hand_87 ?_
              refine j_iload X 1 rfl dX7_hand_89 ?_
              refine j_iload_n X 5 rfl rfl dX7_hand_91 ?_
              refine j_iconst X (v := (-1)) (by decide) dX7_hand_92 ?_
              refine j_ixor X dX7_hand_93 ?_
              refine j_iand X dX7_hand_94 ?_
              refine j_if_ne X 129 (by decide) dX7_hand_95 (fun c_13 => ?_) (fun c_13 => ?_)
              · refine j_iinc X (v := (nI (i_7 + 1))) 1 [(5, .int (nI (i_7 + 1))), (6, .int 1), (0, .ref (ad 0)), (1, .int (nI Q)), (2, .int (nI N)), (3, .int g_6), (4, .int v4_i_7)] rfl (show nI i_7 + Int32.ofInt 1 = _ from nI_1 i_7) (by decide) rfl dX7_hand_129 ?_
                refine j_goto X 56 (by decide) dX7_hand_132 ?_
                refine j_lv (lv1 := [(5, .int (nI (i_7 + 1))), (0, .ref (ad 0)), (1, .int (nI Q)), (2, .int (nI N)), (3, .int g_6), (4, .int v4_i_7)]) [0, 2, 3, 4, 5, 6] rfl ?_
                exact ih7 (i_7 + 1) _ _ (by omega) (by omega) hs7
              · refine j_iload X 0 rfl dX7_hand_98 ?_
                refine j_if_eq X 129 (by decide) dX7_hand_100 (fun c_14 => False.elim (by revert c_14; decide)) (fun c_14 => ?_)
                refine j_aload_n X 2 rfl rfl dX7_hand_103 ?_
                refine j_callVV X (nn := 0) (As := []) (st := []) (ci := 7) (by decide) (wE_7 _ rfl) rfl aw_534 aw_535 (g_think l D y ad M7 n (by omega) ((hs7 12 3 rfl).trans hm) (bool_keep (P := (fun b _ => b == 6 || b == 11 || b == 78 || (decide (49 ≤ b) && decide (b ≤ 59)))) (sm_tr sm_rf (sm_w hs7 (by intro b k hb; first | rfl | exact hb | (simp only [Bool.or_eq_false_iff, Bool.and_eq_false_iff, beq_eq_false_iff_ne, ne_eq, decide_eq_false_iff_not] at hb ⊢; omega)))) (fun q hq => by first | rfl | (simp; done) | (simp; omega)) hB)) aw_533 aw_536 aw_2 (by decide +kernel) ⟨by decide, by decide⟩ rfl (Nat.le_of_ble_eq_true rfl) ⟨by decide, by decide⟩ dX7_hand_104 ?_
                rintro M_16 ⟨s_15, s_15_g, s_15_b⟩
                refine j_aload_n X 2 rfl rfl dX7_hand_107 ?_
                refine j_get X (by decide) (wE_7 _ rfl) rfl awF7 2 (by decide) aw_21 rfl (v := .ref (ad 49)) rfl dX7_hand_108 ?_
                refine j_iload X 1 rfl dX7_hand_111 ?_
                refine j_callVNV X (nn := 1) (As := [.int (nI i_7)]) (st := []) (ci := 0) (by decide) (wE_0 _ rfl) rfl aw_606 aw_607 (g_sharpen_49 l D y ad M_16 n (by omega) ((s_15_g 3 (by decide) (by decide)).trans ((hs7 12 3 rfl).trans hm)) (nI i_7)) (List.mem_of_getElem? (i := 37) rfl) aw_608 aw_20 (by decide +kernel) ⟨by decide, by decide⟩ rfl (Nat.le_of_ble_eq_true rfl) ⟨by decide, by decide⟩ dX7_hand_113 ?_
                rintro M_18 s_17
                refine j_aload_n X 2 rfl rfl dX7_hand_116 ?_
                refine j_iload_n X 3 rfl rfl dX7_hand_117 ?_
                refine j_iload_n X 4 rfl rfl dX7_hand_118 ?_
                refine j_callVI X (nn := 2) (As := [.int (nI Q), .int (nI N)]) (st := []) (ci := 7) (by decide) (wE_7 _ rfl) rfl aw_610 aw_611 (g_endsInThought l D y ad M_18 n (by omega) ((s_17 49 3 rfl).trans ((s_15_g 3 (by decide) (by decide)).trans ((hs7 12 3 rfl).trans hm))) z2 z7 (TextOK_keep (P := (fun b _ => b == 6 || b == 11 || b == 78 || (decide (49 ≤ b) && decide (b ≤ 59)))) (sm_tr (sm_tr (sm_tr sm_rf (sm_w hs7 (by intro b k hb; first | rfl | exact hb | (simp only [Bool.or_eq_false_iff, Bool.and_eq_false_iff, beq_eq_false_iff_ne, ne_eq, decide_eq_false_iff_not] at hb ⊢; omega)))) (sm_w s_15 (by intro b k hb; first | rfl | exact hb | (simp only [Bool.or_eq_false_iff, Bool.and_eq_false_iff, beq_eq_false_iff_ne, ne_eq, decide_eq_false_iff_not] at hb ⊢; omega)))) (sm_w s_17 (by intro b k hb; first | rfl | exact hb | (simp only [Bool.or_eq_false_iff, Bool.and_eq_false_iff, beq_eq_false_iff_ne, ne_eq, decide_eq_false_iff_not] at hb ⊢; omega)))) (fun _ => rfl) (fun _ => rfl) (fun _ => rfl) (fun _ => rfl) hT2) (TextOK_keep (P := (fun b _ => b == 6 || b == 11 || b == 78 || (decide (49 ≤ b) && decide (b ≤ 59)))) (sm_tr (sm_tr (sm_tr sm_rf (sm_w hs7 (by intro b k hb; first | rfl | exact hb | (simp only [Bool.or_eq_false_iff, Bool.and_eq_false_iff, beq_eq_false_iff_ne, ne_eq, decide_eq_false_iff_not] at hb ⊢; omega)))) (sm_w s_15 (by intro b k hb; first | rfl | exact hb | (simp only [Bool.or_eq_false_iff, Bool.and_eq_false_iff, beq_eq_false_iff_ne, ne_eq, decide_eq_false_iff_not] at hb ⊢; omega)))) (sm_w s_17 (by intro b k hb; first | rfl | exact hb | (simp only [Bool.or_eq_false_iff, Bool.and_eq_false_iff, beq_eq_false_iff_ne, ne_eq, decide_eq_false_iff_not] at hb ⊢; omega)))) (fun _ => rfl) (fun _ => rfl) (fun _ => rfl) (fun _ => rfl) hT7) Q (by omega) N (by omega) (fun q hq => by rw [s_17 (51 + q) 6 (by simp <;> omega)]; exact s_15_b q hq)) aw_609 aw_612 aw_2 (by decide +kernel) ⟨by decide, by decide⟩ rfl (Nat.le_of_ble_eq_true rfl) ⟨by decide, by decide⟩ dX7_hand_119 ?_
                rintro r_ M_20 (⟨rfl, s_19⟩ | ⟨rfl, s_19⟩)
                · refine j_if_eq X 129 (by decide) dX7_hand_122 (fun c_21 => ?_) (fun c_21 => False.elim (by revert c_21; decide))
                  refine j_iinc X (v := (nI (i_7 + 1))) 1 [(5, .int (nI (i_7 + 1))), (6, .int 1), (0, .ref (ad 0)), (1, .int (nI Q)), (2, .int (nI N)), (3, .int g_6), (4, .int v4_i_7)] rfl (show nI i_7 + Int32.ofInt 1 = _ from nI_1 i_7) (by decide) rfl dX7_hand_129 ?_
                  refine j_goto X 56 (by decide) dX7_hand_132 ?_
                  refine j_lv (lv1 := [(5, .int (nI (i_7 + 1))), (0, .ref (ad 0)), (1, .int (nI Q)), (2, .int (nI N)), (3, .int g_6), (4, .int v4_i_7)]) [0, 2, 3, 4, 5, 6] rfl ?_
                  exact ih7 (i_7 + 1) _ _ (by omega) (by omega) (sm_tr (sm_tr (sm_tr hs7 (sm_w s_15 (by intro b k hb; first | rfl | exact hb | (simp only [Bool.or_eq_false_iff, Bool.and_eq_false_iff, beq_eq_false_iff_ne, ne_eq, decide_eq_false_iff_not] at hb ⊢; omega)))) (sm_w s_17 (by intro b k hb; first | rfl | exact hb | (simp only [Bool.or_eq_false_iff, Bool.and_eq_false_iff, beq_eq_false_iff_ne, ne_eq, decide_eq_false_iff_not] at hb ⊢; omega)))) (sm_w s_19 (by intro b k hb; first | rfl | exact hb | (simp only [Bool.or_eq_false_iff, Bool.and_eq_false_iff, beq_eq_false_iff_ne, ne_eq, decide_eq_false_iff_not] at hb ⊢; omega))))
                · refine j_if_eq X 129 (by decide) dX7_hand_122 (fun c_22 => False.elim (by revert c_22; decide)) (fun c_22 => ?_)
                  refine j_iload X 1 rfl dX7_hand_125 ?_
                  refine j_istore X [(4, .int (nI i_7)), (6, .int 1), (5, .int (nI i_7)), (0, .ref (ad 0)), (1, .int (nI Q)), (2, .int (nI N)), (3, .int g_6)] (by decide) rfl dX7_hand_127 ?_
                  refine j_iinc X (v := (nI (i_7 + 1))) 2 [(5, .int (nI (i_7 + 1))), (4, .int (nI i_7)), (6, .int 1), (0, .ref (ad 0)), (1, .int (nI Q)), (2, .int (nI N)), (3, .int g_6)] rfl (show nI i_7 + Int32.ofInt 1 = _ from nI_1 i_7) (by decide) rfl dX7_hand_129 ?_
                  refine j_goto X 56 (by decide) dX7_hand_132 ?_
                  refine j_lv (lv1 := [(5, .int (nI (i_7 + 1))), (0, .ref (ad 0)), (1, .int (nI Q)), (2, .int (nI N)), (3, .int g_6), (4, .int (nI i_7))]) [0, 3, 4, 5, 6, 1] rfl ?_
                  exact ih7 (i_7 + 1) _ _ (by omega) (by omega) (sm_tr (sm_tr (sm_tr hs7 (sm_w s_15 (by intro b k hb; first | rfl | exact hb | (simp only [Bool.or_eq_false_iff, Bool.and_eq_false_iff, beq_eq_false_iff_ne, ne_eq, decide_eq_false_iff_not] at hb ⊢; omega)))) (sm_w s_17 (by intro b k hb; first | rfl | exact hb | (simp only [Bool.or_eq_false_iff, Bool.and_eq_false_iff, beq_eq_false_iff_ne, ne_eq, decide_eq_false_iff_not] at hb ⊢; omega)))) (sm_w s_19 (by intro b k hb; first | rfl | exact hb | (simp only [Bool.or_eq_false_iff, Bool.and_eq_false_iff, beq_eq_false_iff_ne, ne_eq, decide_eq_false_iff_not] at hb ⊢; omega))))
            · have qc_12 := ti_nlt (a := v4_i_7.toInt) (b := 0) rfl (by decide) c_12
              refine j_iload X 0 rfl dX7_hand_69 ?_
              refine j_callSI X (nn := 1) (As := [.int (nI i_7)]) (st := []) aw_470 (g_bitCount l D y ad M7 (nI i_7)) aw_605 aw_472 aw_471 (by decide +kernel) ⟨by decide, by decide⟩ rfl (Nat.le_of_ble_eq_true rfl) ⟨by decide, by decide⟩ dX7_hand_71 ?_
              rintro r_23 M1_ rfl
              refine j_iload X 5 rfl dX7_hand_74 ?_
              refine j_callSI X (nn := 1) (As := [.int v4_i_7]) (st := [.int r_23]) aw_470 (g_bitCount l D y ad M7 v4_i_7) aw_605 aw_472 aw_471 (by decide +kernel) ⟨by decide, by decide⟩ rfl (Nat.le_of_ble_eq_true rfl) ⟨by decide, by decide⟩ dX7_hand_76 ?_
              rintro r_24 M1_ rfl
              refine j_icmp_ge X 86 (by decide) dX7_hand_79 (fun c_25 => ?_) (fun c_25 => ?_)
              · have qc_25 := ti_le (a := r_24.toInt) (b := r_23.toInt) rfl rfl c_25
                refine j_iconst X (v := 0) (by decide) dX7_hand_86 ?_
                refine j_istore X [(6, .int 0), (5, .int (nI i_7)), (0, .ref (ad 0)), (1, .int (nI Q)), (2, .int (nI N)), (3, .int g_6), (4, .int v4_i_7)] (by decide) rfl dX7_hand_87 ?_
                refine j_iload X 1 rfl dX7_hand_89 ?_
                refine j_iload_n X 5 rfl rfl dX7_hand_91 ?_
                refine j_iconst X (v := (-1)) (by decide) dX7_hand_92 ?_
                refine j_ixor X dX7_hand_93 ?_
                refine j_iand X dX7_hand_94 ?_
                refine j_if_ne X 129 (by decide) dX7_hand_95 (fun c_26 => ?_) (fun c_26 => ?_)
                · refine j_iinc X (v := (nI (i_7 + 1))) 1 [(5, .int (nI (i_7 + 1))), (6, .int 0), (0, .ref (ad 0)), (1, .int (nI Q)), (2, .int (nI N)), (3, .int g_6), (4, .int v4_i_7)] rfl (show nI i_7 + Int32.ofInt 1 = _ from nI_1 i_7) (by decide) rfl dX7_hand_129 ?_
                  refine j_goto X 56 (by decide) dX7_hand_132 ?_
                  refine j_lv (lv1 := [(5, .int (nI (i_7 + 1))), (0, .ref (ad 0)), (1, .int (nI Q)), (2, .int (nI N)), (3, .int g_6), (4, .int v4_i_7)]) [0, 2, 3, 4, 5, 6] rfl ?_
                  exact ih7 (i_7 + 1) _ _ (by omega) (by omega) hs7
                · refine j_iload X 0 rfl dX7_hand_98 ?_
                  refine j_if_eq X 129 (by decide) dX7_hand_100 (fun c_27 => ?_) (fun c_27 => False.elim (by revert c_27; decide))
                  refine j_iinc X (v := (nI (i_7 + 1))) 1 [(5, .int (nI (i_7 + 1))), (6, .int 0), (0, .ref (ad 0)), (1, .int (nI Q)), (2, .int (nI N)), (3, .int g_6), (4, .int v4_i_7)] rfl (show nI i_7 + Int32.ofInt 1 = _ from nI_1 i_7) (by decide) rfl dX7_hand_129 ?_
                  refine j_goto X 56 (by decide) dX7_hand_132 ?_
                  refine j_lv (lv1 := [(5, .int (nI (i_7 + 1))), (0, .ref (ad 0)), (1, .int (nI Q)), (2, .int (nI N)), (3, .int g_6), (4, .int v4_i_7)]) [0, 2, 3, 4, 5, 6] rfl ?_
                  exact ih7 (i_7 + 1) _ _ (by omega) (by omega) hs7
              · have qc_25 := ti_nle (a := r_24.toInt) (b := r_23.toInt) rfl rfl c_25
                refine j_iconst X (v := 1) (by decide) dX7_hand_82 ?_
                refine j_goto X 87 (by decide) dX7_hand_83 ?_
                refine j_istore X [(6, .int 1), (5, .int (nI i_7)), (0, .ref (ad 0)), (1, .int (nI Q)), (2, .int (nI N)), (3, .int g_6), (4, .int v4_i_7)] (by decide) rfl dX7_hand_87 ?_
                refine j_iload X 1 rfl dX7_hand_89 ?_
                refine j_iload_n X 5 rfl rfl dX7_hand_91 ?_
                refine j_iconst X (v := (-1)) (by decide) dX7_hand_92 ?_
                refine j_ixor X dX7_hand_93 ?_
                refine j_iand X dX7_hand_94 ?_
                refine j_if_ne X 129 (by decide) dX7_hand_95 (fun c_28 => ?_) (fun c_28 => ?_)
                · refine j_iinc X (v := (nI (i_7 + 1))) 1 [(5, .int (nI (i_7 + 1))), (6, .int 1), (0, .ref (ad 0)), (1, .int (nI Q)), (2, .int (nI N)), (3, .int g_6), (4, .int v4_i_7)] rfl (show nI i_7 + Int32.ofInt 1 = _ from nI_1 i_7) (by decide) rfl dX7_hand_129 ?_
                  refine j_goto X 56 (by decide) dX7_hand_132 ?_
                  refine j_lv (lv1 := [(5, .int (nI (i_7 + 1))), (0, .ref (ad 0)), (1, .int (nI Q)), (2, .int (nI N)), (3, .int g_6), (4, .int v4_i_7)]) [0, 2, 3, 4, 5, 6] rfl ?_
                  exact ih7 (i_7 + 1) _ _ (by omega) (by omega) hs7
                · refine j_iload X 0 rfl dX7_hand_98 ?_
                  refine j_if_eq X 129 (by decide) dX7_hand_100 (fun c_29 => False.elim (by revert c_29; decide)) (fun c_29 => ?_)
                  refine j_aload_n X 2 rfl rfl dX7_hand_103 ?_
                  refine j_callVV X (nn := 0) (As := []) (st := []) (ci := 7) (by decide) (wE_7 _ rfl) rfl aw_534 aw_535 (g_think l D y ad M7 n (by omega) ((hs7 12 3 rfl).trans hm) (bool_keep (P := (fun b _ => b == 6 || b == 11 || b == 78 || (decide (49 ≤ b) && decide (b ≤ 59)))) (sm_tr sm_rf (sm_w hs7 (by intro b k hb; first | rfl | exact hb | (simp only [Bool.or_eq_false_iff, Bool.and_eq_false_iff, beq_eq_false_iff_ne, ne_eq, decide_eq_false_iff_not] at hb ⊢; omega)))) (fun q hq => by first | rfl | (simp; done) | (simp; omega)) hB)) aw_533 aw_536 aw_2 (by decide +kernel) ⟨by decide, by decide⟩ rfl (Nat.le_of_ble_eq_true rfl) ⟨by decide, by decide⟩ dX7_hand_104 ?_
                  rintro M_31 ⟨s_30, s_30_g, s_30_b⟩
                  refine j_aload_n X 2 rfl rfl dX7_hand_107 ?_
                  refine j_get X (by decide) (wE_7 _ rfl) rfl awF7 2 (by decide) aw_21 rfl (v := .ref (ad 49)) rfl dX7_hand_108 ?_
                  refine j_iload X 1 rfl dX7_hand_111 ?_
                  refine j_callVNV X (nn := 1) (As := [.int (nI i_7)]) (st := []) (ci := 0) (by decide) (wE_0 _ rfl) rfl aw_606 aw_607 (g_sharpen_49 l D y ad M_31 n (by omega) ((s_30_g 3 (by decide) (by decide)).trans ((hs7 12 3 rfl).trans hm)) (nI i_7)) (List.mem_of_getElem? (i := 37) rfl) aw_608 aw_20 (by decide +kernel) ⟨by decide, by decide⟩ rfl (Nat.le_of_ble_eq_true rfl) ⟨by decide, by decide⟩ dX7_hand_113 ?_
                  rintro M_33 s_32
                  refine j_aload_n X 2 rfl rfl dX7_hand_116 ?_
                  refine j_iload_n X 3 rfl rfl dX7_hand_117 ?_
                  refine j_iload_n X 4 rfl rfl dX7_hand_118 ?_
                  refine j_callVI X (nn := 2) (As := [.int (nI Q), .int (nI N)]) (st := []) (ci := 7) (by decide) (wE_7 _ rfl) rfl aw_610 aw_611 (g_endsInThought l D y ad M_33 n (by omega) ((s_32 49 3 rfl).trans ((s_30_g 3 (by decide) (by decide)).trans ((hs7 12 3 rfl).trans hm))) z2 z7 (TextOK_keep (P := (fun b _ => b == 6 || b == 11 || b == 78 || (decide (49 ≤ b) && decide (b ≤ 59)))) (sm_tr (sm_tr (sm_tr sm_rf (sm_w hs7 (by intro b k hb; first | rfl | exact hb | (simp only [Bool.or_eq_false_iff, Bool.and_eq_false_iff, beq_eq_false_iff_ne, ne_eq, decide_eq_false_iff_not] at hb ⊢; omega)))) (sm_w s_30 (by intro b k hb; first | rfl | exact hb | (simp only [Bool.or_eq_false_iff, Bool.and_eq_false_iff, beq_eq_false_iff_ne, ne_eq, decide_eq_false_iff_not] at hb ⊢; omega)))) (sm_w s_32 (by intro b k hb; first | rfl | exact hb | (simp only [Bool.or_eq_false_iff, Bool.and_eq_false_iff, beq_eq_false_iff_ne, ne_eq, decide_eq_false_iff_not] at hb ⊢; omega)))) (fun _ => rfl) (fun _ => rfl) (fun _ => rfl) (fun _ => rfl) hT2) (TextOK_keep (P := (fun b _ => b == 6 || b == 11 || b == 78 || (decide (49 ≤ b) && decide (b ≤ 59)))) (sm_tr (sm_tr (sm_tr sm_rf (sm_w hs7 (by intro b k hb; first | rfl | exact hb | (simp only [Bool.or_eq_false_iff, Bool.and_eq_false_iff, beq_eq_false_iff_ne, ne_eq, decide_eq_false_iff_not] at hb ⊢; omega)))) (sm_w s_30 (by intro b k hb; first | rfl | exact hb | (simp only [Bool.or_eq_false_iff, Bool.and_eq_false_iff, beq_eq_false_iff_ne, ne_eq, decide_eq_false_iff_not] at hb ⊢; omega)))) (sm_w s_32 (by intro b k hb; first | rfl | exact hb | (simp only [Bool.or_eq_false_iff, Bool.and_eq_false_iff, beq_eq_false_iff_ne, ne_eq, decide_eq_false_iff_not] at hb ⊢; omega)))) (fun _ => rfl) (fun _ => rfl) (fun _ => rfl) (fun _ => rfl) hT7) Q (by omega) N (by omega) (fun q hq => by rw [s_32 (51 + q) 6 (by simp <;> omega)]; exact s_30_b q hq)) aw_609 aw_612 aw_2 (by decide +kernel) ⟨by decide, by decide⟩ rfl (Nat.le_of_ble_eq_true rfl) ⟨by decide, by decide⟩ dX7_hand_119 ?_
                  rintro r_ M_35 (⟨rfl, s_34⟩ | ⟨rfl, s_34⟩)
                  · refine j_if_eq X 129 (by decide) dX7_hand_122 (fun c_36 => ?_) (fun c_36 => False.elim (by revert c_36; decide))
                    refine j_iinc X (v := (nI (i_7 + 1))) 1 [(5, .int (nI (i_7 + 1))), (6, .int 1), (0, .ref (ad 0)), (1, .int (nI Q)), (2, .int (nI N)), (3, .int g_6), (4, .int v4_i_7)] rfl (show nI i_7 + Int32.ofInt 1 = _ from nI_1 i_7) (by decide) rfl dX7_hand_129 ?_
                    refine j_goto X 56 (by decide) dX7_hand_132 ?_
                    refine j_lv (lv1 := [(5, .int (nI (i_7 + 1))), (0, .ref (ad 0)), (1, .int (nI Q)), (2, .int (nI N)), (3, .int g_6), (4, .int v4_i_7)]) [0, 2, 3, 4, 5, 6] rfl ?_
                    exact ih7 (i_7 + 1) _ _ (by omega) (by omega) (sm_tr (sm_tr (sm_tr hs7 (sm_w s_30 (by intro b k hb; first | rfl | exact hb | (simp only [Bool.or_eq_false_iff, Bool.and_eq_false_iff, beq_eq_false_iff_ne, ne_eq, decide_eq_false_iff_not] at hb ⊢; omega)))) (sm_w s_32 (by intro b k hb; first | rfl | exact hb | (simp only [Bool.or_eq_false_iff, Bool.and_eq_false_iff, beq_eq_false_iff_ne, ne_eq, decide_eq_false_iff_not] at hb ⊢; omega)))) (sm_w s_34 (by intro b k hb; first | rfl | exact hb | (simp only [Bool.or_eq_false_iff, Bool.and_eq_false_iff, beq_eq_false_iff_ne, ne_eq, decide_eq_false_iff_not] at hb ⊢; omega))))
                  · refine j_if_eq X 129 (by decide) dX7_hand_122 (fun c_37 => False.elim (by revert c_37; decide)) (fun c_37 => ?_)
                    refine j_iload X 1 rfl dX7_hand_125 ?_
                    refine j_istore X [(4, .int (nI i_7)), (6, .int 1), (5, .int (nI i_7)), (0, .ref (ad 0)), (1, .int (nI Q)), (2, .int (nI N)), (3, .int g_6)] (by decide) rfl dX7_hand_127 ?_
                    refine j_iinc X (v := (nI (i_7 + 1))) 2 [(5, .int (nI (i_7 + 1))), (4, .int (nI i_7)), (6, .int 1), (0, .ref (ad 0)), (1, .int (nI Q)), (2, .int (nI N)), (3, .int g_6)] rfl (show nI i_7 + Int32.ofInt 1 = _ from nI_1 i_7) (by decide) rfl dX7_hand_129 ?_
                    refine j_goto X 56 (by decide) dX7_hand_132 ?_
                    refine j_lv (lv1 := [(5, .int (nI (i_7 + 1))), (0, .ref (ad 0)), (1, .int (nI Q)), (2, .int (nI N)), (3, .int g_6), (4, .int (nI i_7))]) [0, 3, 4, 5, 6, 1] rfl ?_
                    exact ih7 (i_7 + 1) _ _ (by omega) (by omega) (sm_tr (sm_tr (sm_tr hs7 (sm_w s_30 (by intro b k hb; first | rfl | exact hb | (simp only [Bool.or_eq_false_iff, Bool.and_eq_false_iff, beq_eq_false_iff_ne, ne_eq, decide_eq_false_iff_not] at hb ⊢; omega)))) (sm_w s_32 (by intro b k hb; first | rfl | exact hb | (simp only [Bool.or_eq_false_iff, Bool.and_eq_false_iff, beq_eq_false_iff_ne, ne_eq, decide_eq_false_iff_not] at hb ⊢; omega)))) (sm_w s_34 (by intro b k hb; first | rfl | exact hb | (simp only [Bool.or_eq_false_iff, Bool.and_eq_false_iff, beq_eq_false_iff_ne, ne_eq, decide_eq_false_iff_not] at hb ⊢; omega))))
      refine j_lv (lv1 := [(5, .int (nI 0)), (0, .ref (ad 0)), (1, .int (nI Q)), (2, .int (nI N)), (3, .int g_6), (4, .int (-1))]) [0, 3, 4, 5, 2, 1] rfl ?_
      exact loop7 (512 + 1) 0 _ _ (by omega) (by omega) sm_rf
    · refine j_if_ne X 25 (by decide) dX7_hand_15 (fun c_38 => False.elim (by revert c_38; decide)) (fun c_38 => ?_)
      refine j_aload_n X 0 rfl rfl dX7_hand_18 ?_
      refine j_ldc X (v := (-1000000001)) aw_108 dX7_hand_19 ?_
      refine j_callVI X (nn := 1) (As := [.int (-1000000001)]) (st := []) (ci := 7) (by decide) (wE_7 _ rfl) rfl aw_117 aw_118 (g_refuse l D y ad M (-1000000001) 1 (by decide) (by decide)) aw_116 aw_119 aw_2 (by decide +kernel) ⟨by decide, by decide⟩ rfl (Nat.le_of_ble_eq_true rfl) ⟨by decide, by decide⟩ dX7_hand_21 ?_
      rintro r_ M_40 ⟨rfl, s_39⟩
      exact j_iret X hr hlocks dX7_hand_24 (sm_tr sm_rf (sm_w s_39 (by intro b k hb; first | rfl | exact hb | (simp only [Bool.or_eq_false_iff, Bool.and_eq_false_iff, beq_eq_false_iff_ne, ne_eq, decide_eq_false_iff_not] at hb ⊢; omega))))
  · refine j_if_eq X 18 (by decide) dX7_hand_5 (fun c_41 => ?_) (fun c_41 => False.elim (by revert c_41; decide))
    refine j_aload_n X 0 rfl rfl dX7_hand_18 ?_
    refine j_ldc X (v := (-1000000001)) aw_108 dX7_hand_19 ?_
    refine j_callVI X (nn := 1) (As := [.int (-1000000001)]) (st := []) (ci := 7) (by decide) (wE_7 _ rfl) rfl aw_117 aw_118 (g_refuse l D y ad M (-1000000001) 1 (by decide) (by decide)) aw_116 aw_119 aw_2 (by decide +kernel) ⟨by decide, by decide⟩ rfl (Nat.le_of_ble_eq_true rfl) ⟨by decide, by decide⟩ dX7_hand_21 ?_
    rintro r_ M_43 ⟨rfl, s_42⟩
    exact j_iret X hr hlocks dX7_hand_24 (sm_tr sm_rf (sm_w s_42 (by intro b k hb; first | rfl | exact hb | (simp only [Bool.or_eq_false_iff, Bool.and_eq_false_iff, beq_eq_false_iff_ne, ne_eq, decide_eq_false_iff_not] at hb ⊢; omega))))
set_option maxRecDepth 100000 in
set_option maxHeartbeats 4000000 in
theorem g_X7_first (l : Launch) (D : va_G) (y : wY) (ad : Nat → Nat) (M : Mem) (n : Nat) (hn : n ≤ 9) (hm : M 12 3 = nI n) (hB : ∀ q, q < 9 → BoolOK (M (14 + q) 6)) (z2 z7 : Nat) (hT2 : TextOK M 2 z2) (hT7 : TextOK M 7 z7) (nn what : Int32) : MI l D y ad yX7_first (Cond.code yX7_first cX7_first 6 (some .int)) 9 M [.ref (ad 0), .int nn, .int what] (fun _ M' => sm (fun b _ => b == 6 || b == 11 || b == 78 || (decide (49 ≤ b) && decide (b ≤ 59))) M M') := by
  refine MI_of (by decide) (Nat.le_of_ble_eq_true rfl) ?_
  intro p e s m args below meth c X hr hlocks
  refine j_lv (lv1 := [(0, .ref (ad 0)), (1, .int nn), (2, .int what)]) [0, 1, 2] rfl ?_
  refine j_iload_n X 1 rfl rfl dX7_first_0 ?_
  refine j_iconst X (v := 0) (by decide) dX7_first_1 ?_
  refine j_bipush X (v := 60) (by decide) dX7_first_2 ?_
  refine j_callSI X (nn := 3) (As := [.int nn, .int 0, .int 60]) (st := []) aw_110 (g_X7_isWithin l D y ad M nn 0 60 0 60 (by decide) (by decide)) aw_109 aw_111 aw_2 (by decide +kernel) ⟨by decide, by decide⟩ rfl (Nat.le_of_ble_eq_true rfl) ⟨by decide, by decide⟩ dX7_first_4 ?_
  rintro r_ M1_ (⟨rfl, rfl, h_1⟩ | ⟨rfl, rfl, h_1⟩)
  · refine j_if_eq X 19 (by decide) dX7_first_7 (fun c_2 => False.elim (by revert c_2; decide)) (fun c_2 => ?_)
    refine j_iload_n X 2 rfl rfl dX7_first_10 ?_
    refine j_iconst X (v := 0) (by decide) dX7_first_11 ?_
    refine j_iconst X (v := 1) (by decide) dX7_first_12 ?_
    refine j_callSI X (nn := 3) (As := [.int what, .int 0, .int 1]) (st := []) aw_110 (g_X7_isWithin l D y ad M what 0 1 0 1 (by decide) (by decide)) aw_109 aw_111 aw_2 (by decide +kernel) ⟨by decide, by decide⟩ rfl (Nat.le_of_ble_eq_true rfl) ⟨by decide, by decide⟩ dX7_first_13 ?_
    rintro r_ M1_ (⟨rfl, rfl, h_3⟩ | ⟨rfl, rfl, h_3⟩)
    · refine j_if_ne X 26 (by decide) dX7_first_16 (fun c_4 => ?_) (fun c_4 => False.elim (by revert c_4; decide))
      obtain ⟨N, hN, rfl⟩ := nI_oft (x := nn) (n := 60) (by omega) (by omega) (by decide)
      refine j_iconst X (v := (-1)) (by decide) dX7_first_26 ?_
      refine j_istore_n X [(3, .int (-1)), (0, .ref (ad 0)), (1, .int (nI N)), (2, .int what)] rfl (by decide) rfl dX7_first_27 ?_
      refine j_iconst X (v := 0) (by decide) dX7_first_28 ?_
      refine j_istore X [(4, .int 0), (3, .int (-1)), (0, .ref (ad 0)), (1, .int (nI N)), (2, .int what)] (by decide) rfl dX7_first_29 ?_
      refine j_iconst X (v := 0) (by decide) dX7_first_31 ?_
      refine j_istore X [(5, .int 0), (4, .int 0), (3, .int (-1)), (0, .ref (ad 0)), (1, .int (nI N)), (2, .int what)] (by decide) rfl dX7_first_32 ?_
      have loop5 : ∀ (n_5 i_5 : Nat) (M5 : Mem) (v3_i_5 : Int32) (v4_i_5 : Int32), i_5 ≤ n → n - i_5 < n_5 → sm (fun b _ => b == 6 || b == 11 || b == 78 || (decide (49 ≤ b) && decide (b ≤ 59))) M M5 → J p l e (rmN 9) s m args below meth c 0 0 (QI (fun _ M' => sm (fun b _ => b == 6 || b == 11 || b == 78 || (decide (49 ≤ b) && decide (b ≤ 59))) M M') D y ad M s args below) D y ad (va_A (PL y ad M) s.heap.size) 6 M5 34 [(5, .int (nI i_5)), (0, .ref (ad 0)), (1, .int (nI N)), (2, .int what), (3, .int v3_i_5), (4, .int v4_i_5)] [] := by
        intro n_5
        induction n_5 with
        | zero => intro i_5 M5 v3_i_5 v4_i_5 h1 h2; exact absurd h2 (by omega)
        | succ n_5 ih5 =>
          intro i_5 M5 v3_i_5 v4_i_5 h1i_5 h2i_5 hs5
          refine j_iload X 0 rfl dX7_first_34 ?_
          refine j_aload_n X 1 rfl rfl dX7_first_36 ?_
          refine j_get X (by decide) (wE_7 _ rfl) rfl awF7 0 (by decide) aw_16 rfl (v := .ref (ad 1)) rfl dX7_first_37 ?_
          refine j_getN X (by decide) (wE_6 _ rfl) rfl awF6 2 (by decide) (List.mem_of_getElem? (i := 23) rfl) rfl (v := .ref (ad 12)) rfl dX7_first_40 ?_
          refine j_getN X (by decide) (wE_0 _ rfl) rfl awF0 3 (by decide) (List.mem_of_getElem? (i := 15) rfl) rfl (v := .int (M5 12 3)) rfl dX7_first_43 ?_
          refine j_eqi (v := (nI n)) ((hs5 12 3 rfl).trans hm) ?_
          refine j_icmp_ge X 106 (by decide) dX7_first_46 (fun c_6 => ?_) (fun c_6 => ?_)
          · have c_6 := (nI_leI (by omega) (by omega)).mp (show nI (n) ≤ nI i_5 from c_6)
            refine j_iload_n X 4 rfl rfl dX7_first_106 ?_
            refine j_if_ge X 117 (by decide) dX7_first_107 (fun c_7 => ?_) (fun c_7 => ?_)
            · have qc_7 := ti_le (a := 0) (b := v3_i_5.toInt) (by decide) rfl c_7
              refine j_iload_n X 3 rfl rfl dX7_first_117 ?_
              refine j_if_ne X 125 (by decide) dX7_first_118 (fun c_8 => ?_) (fun c_8 => ?_)
              · have qc_8 := ti_ne (n := 0) (by decide) c_8
                refine j_iload X 5 rfl dX7_first_125 ?_
                refine j_aload_n X 1 rfl rfl dX7_first_127 ?_
                refine j_get X (by decide) (wE_7 _ rfl) rfl awF7 0 (by decide) aw_16 rfl (v := .ref (ad 1)) rfl dX7_first_128 ?_
                refine j_getN X (by decide) (wE_6 _ rfl) rfl awF6 2 (by decide) (List.mem_of_getElem? (i := 23) rfl) rfl (v := .ref (ad 12)) rfl dX7_first_131 ?_
                refine j_getN X (by decide) (wE_0 _ rfl) rfl awF0 7 (by decide) (List.mem_of_getElem? (i := 19) rfl) rfl (v := .int (M5 12 7)) rfl dX7_first_134 ?_
                refine j_isub X dX7_first_137 ?_
                exact j_iret X hr hlocks dX7_first_138 (sm_tr sm_rf (sm_w hs5 (by intro b k hb; first | rfl | exact hb | (simp only [Bool.or_eq_false_iff, Bool.and_eq_false_iff, beq_eq_false_iff_ne, ne_eq, decide_eq_false_iff_not] at hb ⊢; omega))))
              · have qc_8 := ti_eq (n := 0) (by decide) c_8
                refine j_iload_n X 4 rfl rfl dX7_first_121 ?_
                refine j_goto X 138 (by decide) dX7_first_122 ?_
                exact j_iret X hr hlocks dX7_first_138 (sm_tr sm_rf (sm_w hs5 (by intro b k hb; first | rfl | exact hb | (simp only [Bool.or_eq_false_iff, Bool.and_eq_false_iff, beq_eq_false_iff_ne, ne_eq, decide_eq_false_iff_not] at hb ⊢; omega))))
            · have qc_7 := ti_nle (a := 0) (b := v3_i_5.toInt) (by decide) rfl c_7
              refine j_aload_n X 1 rfl rfl dX7_first_110 ?_
              refine j_ldc X (v := (-1000000002)) aw_560 dX7_first_111 ?_
              refine j_callVI X (nn := 1) (As := [.int (-1000000002)]) (st := []) (ci := 7) (by decide) (wE_7 _ rfl) rfl aw_117 aw_118 (g_refuse l D y ad M5 (-1000000002) 2 (by decide) (by decide)) aw_116 aw_119 aw_2 (by decide +kernel) ⟨by decide, by decide⟩ rfl (Nat.le_of_ble_eq_true rfl) ⟨by decide, by decide⟩ dX7_first_113 ?_
              rintro r_ M_10 ⟨rfl, s_9⟩
              exact j_iret X hr hlocks dX7_first_116 (sm_tr (sm_tr sm_rf (sm_w hs5 (by intro b k hb; first | rfl | exact hb | (simp only [Bool.or_eq_false_iff, Bool.and_eq_false_iff, beq_eq_false_iff_ne, ne_eq, decide_eq_false_iff_not] at hb ⊢; omega)))) (sm_w s_9 (by intro b k hb; first | rfl | exact hb | (simp only [Bool.or_eq_false_iff, Bool.and_eq_false_iff, beq_eq_false_iff_ne, ne_eq, decide_eq_false_iff_not] at hb ⊢; omega))))
          · have c_6 : i_5 < n := by
              rcases Nat.lt_or_ge i_5 (n) with g | g
              · exact g
              · exact absurd (show nI (n) ≤ nI i_5 from nI_le g (by omega)) c_6
            refine j_aload_n X 1 rfl rfl dX7_first_49 ?_
            refine j_callVV X (nn := 0) (As := []) (st := []) (ci := 7) (by decide) (wE_7 _ rfl) rfl aw_534 aw_535 (g_think l D y ad M5 n (by omega) ((hs5 12 3 rfl).trans hm) (bool_keep (P := (fun b _ => b == 6 || b == 11 || b == 78 || (decide (49 ≤ b) && decide (b ≤ 59)))) (sm_tr sm_rf (sm_w hs5 (by intro b k hb; first | rfl | exact hb | (simp only [Bool.or_eq_false_iff, Bool.and_eq_false_iff, beq_eq_false_iff_ne, ne_eq, decide_eq_false_iff_not] at hb ⊢; omega)))) (fun q hq => by first | rfl | (simp; done) | (simp; omega)) hB)) aw_533 aw_536 aw_2 (by decide +kernel) ⟨by decide, by decide⟩ rfl (Nat.le_of_ble_eq_true rfl) ⟨by decide, by decide⟩ dX7_first_50 ?_
            rintro M_12 ⟨s_11, s_11_g, s_11_b⟩
            refine j_aload_n X 1 rfl rfl dX7_first_53 ?_
            refine j_get X (by decide) (wE_7 _ rfl) rfl awF7 2 (by decide) aw_21 rfl (v := .ref (ad 49)) rfl dX7_first_54 ?_
            refine j_getN X (by decide) (wE_0 _ rfl) rfl awF0 2 (by decide) (List.mem_of_getElem? (i := 14) rfl) rfl (v := .ref (ad 50)) rfl dX7_first_57 ?_
            refine j_iload X 0 rfl dX7_first_60 ?_
            refine j_aald10 X (by decide) rfl (show vp_in (nI i_5) 9 from vp_in_nI (by omega) (by decide)) dX7_first_62 ?_
            refine j_eqr (v := 51 + i_5) (by rw [nI_clamp (by omega)]; exact rf_one49 (by omega)) ?_
            refine j_iconst X (v := 1) (by decide) dX7_first_63 ?_
            refine j_putN X (up M_12 (51 + i_5) 6 1) up_o (by omega) (wE_1 _ (kd_one49 (by omega))) rfl awF1 6 (by decide) (wP_1_6 _ _ (kd_one49 (by omega))) tyX1 tyX1_ok nmX1 rfl (ty := .boolean) (by decide +kernel) rfl rfl (Nat.le_of_ble_eq_true rfl) (List.mem_of_getElem? (i := 12) rfl) rfl dX7_first_64 ?_
            refine j_aload_n X 1 rfl rfl dX7_first_67 ?_
            refine j_iload_n X 2 rfl rfl dX7_first_68 ?_
            refine j_callVV X (nn := 1) (As := [.int (nI N)]) (st := []) (ci := 7) (by decide) (wE_7 _ rfl) rfl aw_626 aw_627 (g_thinkDaysWithHarm l D y ad (up M_12 (51 + i_5) 6 1) n (by omega) ((up_cell (by omega)).trans ((s_11_g 3 (by decide) (by decide)).trans ((hs5 12 3 rfl).trans hm))) z2 z7 (TextOK_keep (P := (fun b _ => b == 6 || b == 11 || b == 78 || (decide (49 ≤ b) && decide (b ≤ 59)))) (sm_up (sm_tr (sm_tr sm_rf (sm_w hs5 (by intro b k hb; first | rfl | exact hb | (simp only [Bool.or_eq_false_iff, Bool.and_eq_false_iff, beq_eq_false_iff_ne, ne_eq, decide_eq_false_iff_not] at hb ⊢; omega)))) (sm_w s_11 (by intro b k hb; first | rfl | exact hb | (simp only [Bool.or_eq_false_iff, Bool.and_eq_false_iff, beq_eq_false_iff_ne, ne_eq, decide_eq_false_iff_not] at hb ⊢; omega)))) (by first | rfl | (simp; done) | (simp; omega) | (simp only [Bool.and_eq_true, Bool.or_eq_true, decide_eq_true_eq, beq_iff_eq]; omega))) (fun _ => rfl) (fun _ => rfl) (fun _ => rfl) (fun _ => rfl) hT2) (TextOK_keep (P := (fun b _ => b == 6 || b == 11 || b == 78 || (decide (49 ≤ b) && decide (b ≤ 59)))) (sm_up (sm_tr (sm_tr sm_rf (sm_w hs5 (by intro b k hb; first | rfl | exact hb | (simp only [Bool.or_eq_false_iff, Bool.and_eq_false_iff, beq_eq_false_iff_ne, ne_eq, decide_eq_false_iff_not] at hb ⊢; omega)))) (sm_w s_11 (by intro b k hb; first | rfl | exact hb | (simp only [Bool.or_eq_false_iff, Bool.and_eq_false_iff, beq_eq_false_iff_ne, ne_eq, decide_eq_false_iff_not] at hb ⊢; omega)))) (by first | rfl | (simp; done) | (simp; omega) | (simp only [Bool.and_eq_true, Bool.or_eq_true, decide_eq_true_eq, beq_iff_eq]; omega))) (fun _ => rfl) (fun _ => rfl) (fun _ => rfl) (fun _ => rfl) hT7) N (by omega)) aw_625 aw_628 aw_2 (by decide +kernel) ⟨by decide, by decide⟩ rfl (Nat.le_of_ble_eq_true rfl) ⟨by decide, by decide⟩ dX7_first_69 ?_
            rintro M_14 ⟨s_13, s_13_e⟩
            refine j_iload_n X 4 rfl rfl dX7_first_72 ?_
            refine j_if_lt X 88 (by decide) dX7_first_73 (fun c_15 => ?_) (fun c_15 => ?_)
            · have qc_15 := ti_lt (a := v3_i_5.toInt) (b := 0) rfl (by decide) c_15
              refine j_iload X 0 rfl dX7_first_88 ?_
              refine j_istore_n X [(3, .int (nI i_5)), (5, .int (nI i_5)), (0, .ref (ad 0)), (1, .int (nI N)), (2, .int what), (4, .int v4_i_5)] rfl (by decide) rfl dX7_first_90 ?_
              refine j_aload_n X 2 rfl rfl dX7_first_91 ?_
              refine j_get X (by decide) (wE_7 _ rfl) rfl awF7 2 (by decide) aw_21 rfl (v := .ref (ad 49)) rfl dX7_first_92 ?_
              refine j_getN X (by decide) (wE_0 _ rfl) rfl awF0 7 (by decide) (List.mem_of_getElem? (i := 19) rfl) rfl (v := .int (M_14 49 7)) rfl dX7_first_95 ?_
              refine j_istore X [(4, .int (M_14 49 7)), (3, .int (nI i_5)), (5, .int (nI i_5)), (0, .ref (ad 0)), (1, .int (nI N)), (2, .int what)] (by decide) rfl dX7_first_98 ?_
              refine j_iinc X (v := (nI (i_5 + 1))) 2 [(5, .int (nI (i_5 + 1))), (4, .int (M_14 49 7)), (3, .int (nI i_5)), (0, .ref (ad 0)), (1, .int (nI N)), (2, .int what)] rfl (show nI i_5 + Int32.ofInt 1 = _ from nI_1 i_5) (by decide) rfl dX7_first_100 ?_
              refine j_goto X 34 (by decide) dX7_first_103 ?_
              refine j_lv (lv1 := [(5, .int (nI (i_5 + 1))), (0, .ref (ad 0)), (1, .int (nI N)), (2, .int what), (3, .int (nI i_5)), (4, .int (M_14 49 7))]) [0, 3, 4, 5, 2, 1] rfl ?_
              exact ih5 (i_5 + 1) _ _ _ (by omega) (by omega) (sm_tr (sm_up (sm_tr hs5 (sm_w s_11 (by intro b k hb; first | rfl | exact hb | (simp only [Bool.or_eq_false_iff, Bool.and_eq_false_iff, beq_eq_false_iff_ne, ne_eq, decide_eq_false_iff_not] at hb ⊢; omega)))) (by first | rfl | (simp; done) | (simp; omega) | (simp only [Bool.and_eq_true, Bool.or_eq_true, decide_eq_true_eq, beq_iff_eq]; omega))) (sm_w s_13 (by intro b k hb; first | rfl | exact hb | (simp only [Bool.or_eq_false_iff, Bool.and_eq_false_iff, beq_eq_false_iff_ne, ne_eq, decide_eq_false_iff_not] at hb ⊢; omega))))
            · have qc_15 := ti_nlt (a := v3_i_5.toInt) (b := 0) rfl (by decide) c_15
              refine j_aload_n X 1 rfl rfl dX7_first_76 ?_
              refine j_get X (by decide) (wE_7 _ rfl) rfl awF7 2 (by decide) aw_21 rfl (v := .ref (ad 49)) rfl dX7_first_77 ?_
              refine j_getN X (by decide) (wE_0 _ rfl) rfl awF0 7 (by decide) (List.mem_of_getElem? (i := 19) rfl) rfl (v := .int (M_14 49 7)) rfl dX7_first_80 ?_
              refine j_iload X 5 rfl dX7_first_83 ?_
              refine j_icmp_ge X 100 (by decide) dX7_first_85 (fun c_16 => ?_) (fun c_16 => ?_)
              · have qc_16 := ti_le (a := v4_i_5.toInt) (b := (M_14 49 7).toInt) rfl rfl c_16
                refine j_iinc X (v := (nI (i_5 + 1))) 0 [(5, .int (nI (i_5 + 1))), (0, .ref (ad 0)), (1, .int (nI N)), (2, .int what), (3, .int v3_i_5), (4, .int v4_i_5)] rfl (show nI i_5 + Int32.ofInt 1 = _ from nI_1 i_5) (by decide) rfl dX7_first_100 ?_
                refine j_goto X 34 (by decide) dX7_first_103 ?_
                refine j_lv (lv1 := [(5, .int (nI (i_5 + 1))), (0, .ref (ad 0)), (1, .int (nI N)), (2, .int what), (3, .int v3_i_5), (4, .int v4_i_5)]) [0, 1, 2, 3, 4, 5] rfl ?_
                exact ih5 (i_5 + 1) _ _ _ (by omega) (by omega) (sm_tr (sm_up (sm_tr hs5 (sm_w s_11 (by intro b k hb; first | rfl | exact hb | (simp only [Bool.or_eq_false_iff, Bool.and_eq_false_iff, beq_eq_false_iff_ne, ne_eq, decide_eq_false_iff_not] at hb ⊢; omega)))) (by first | rfl | (simp; done) | (simp; omega) | (simp only [Bool.and_eq_true, Bool.or_eq_true, decide_eq_true_eq, beq_iff_eq]; omega))) (sm_w s_13 (by intro b k hb; first | rfl | exact hb | (simp only [Bool.or_eq_false_iff, Bool.and_eq_false_iff, beq_eq_false_iff_ne, ne_eq, decide_eq_false_iff_not] at hb ⊢; omega))))
              · have qc_16 := ti_nle (a := v4_i_5.toInt) (b := (M_14 49 7).toInt) rfl rfl c_16
                refine j_iload X 0 rfl dX7_first_88 ?_
                refine j_istore_n X [(3, .int (nI i_5)), (5, .int (nI i_5)), (0, .ref (ad 0)), (1, .int (nI N)), (2, .int what), (4, .int v4_i_5)] rfl (by decide) rfl dX7_first_90 ?_
                refine j_aload_n X 2 rfl rfl dX7_first_91 ?_
                refine j_get X (by decide) (wE_7 _ rfl) rfl awF7 2 (by decide) aw_21 rfl (v := .ref (ad 49)) rfl dX7_first_92 ?_
                refine j_getN X (by decide) (wE_0 _ rfl) rfl awF0 7 (by decide) (List.mem_of_getElem? (i := 19) rfl) rfl (v := .int (M_14 49 7)) rfl dX7_first_95 ?_
                refine j_istore X [(4, .int (M_14 49 7)), (3, .int (nI i_5)), (5, .int (nI i_5)), (0, .ref (ad 0)), (1, .int (nI N)), (2, .int what)] (by decide) rfl dX7_first_98 ?_
                refine j_iinc X (v := (nI (i_5 + 1))) 2 [(5, .int (nI (i_5 + 1))), (4, .int (M_14 49 7)), (3, .int (nI i_5)), (0, .ref (ad 0)), (1, .int (nI N)), (2, .int what)] rfl (show nI i_5 + Int32.ofInt 1 = _ from nI_1 i_5) (by decide) rfl dX7_first_100 ?_
                refine j_goto X 34 (by decide) dX7_first_103 ?_
                refine j_lv (lv1 := [(5, .int (nI (i_5 + 1))), (0, .ref (ad 0)), (1, .int (nI N)), (2, .int what), (3, .int (nI i_5)), (4, .int (M_14 49 7))]) [0, 3, 4, 5, 2, 1] rfl ?_
                exact ih5 (i_5 + 1) _ _ _ (by omega) (by omega) (sm_tr (sm_up (sm_tr hs5 (sm_w s_11 (by intro b k hb; first | rfl | exact hb | (simp only [Bool.or_eq_false_iff, Bool.and_eq_false_iff, beq_eq_false_iff_ne, ne_eq, decide_eq_false_iff_not] at hb ⊢; omega)))) (by first | rfl | (simp; done) | (simp; omega) | (simp only [Bool.and_eq_true, Bool.or_eq_true, decide_eq_true_eq, beq_iff_eq]; omega))) (sm_w s_13 (by intro b k hb; first | rfl | exact hb | (simp only [Bool.or_eq_false_iff, Bool.and_eq_false_iff, beq_eq_false_iff_ne, ne_eq, decide_eq_false_iff_not] at hb ⊢; omega))))
      refine j_lv (lv1 := [(5, .int (nI 0)), (0, .ref (ad 0)), (1, .int (nI N)), (2, .int what), (3, .int (-1)), (4, .int 0)]) [0, 3, 4, 5, 2, 1] rfl ?_
      exact loop5 (n + 1) 0 _ _ _ (by omega) (by omega) sm_rf
    · refine j_if_ne X 26 (by decide) dX7_first_16 (fun c_17 => False.elim (by revert c_17; decide)) (fun c_17 => ?_)
      refine j_aload_n X 0 rfl rfl dX7_first_19 ?_
      refine j_ldc X (v := (-1000000001)) aw_108 dX7_first_20 ?_
      refine j_callVI X (nn := 1) (As := [.int (-1000000001)]) (st := []) (ci := 7) (by decide) (wE_7 _ rfl) rfl aw_117 aw_118 (g_refuse l D y ad M (-1000000001) 1 (by decide) (by decide)) aw_116 aw_119 aw_2 (by decide +kernel) ⟨by decide, by decide⟩ rfl (Nat.le_of_ble_eq_true rfl) ⟨by decide, by decide⟩ dX7_first_22 ?_
      rintro r_ M_19 ⟨rfl, s_18⟩
      exact j_iret X hr hlocks dX7_first_25 (sm_tr sm_rf (sm_w s_18 (by intro b k hb; first | rfl | exact hb | (simp only [Bool.or_eq_false_iff, Bool.and_eq_false_iff, beq_eq_false_iff_ne, ne_eq, decide_eq_false_iff_not] at hb ⊢; omega))))
  · refine j_if_eq X 19 (by decide) dX7_first_7 (fun c_20 => ?_) (fun c_20 => False.elim (by revert c_20; decide))
    refine j_aload_n X 0 rfl rfl dX7_first_19 ?_
    refine j_ldc X (v := (-1000000001)) aw_108 dX7_first_20 ?_
    refine j_callVI X (nn := 1) (As := [.int (-1000000001)]) (st := []) (ci := 7) (by decide) (wE_7 _ rfl) rfl aw_117 aw_118 (g_refuse l D y ad M (-1000000001) 1 (by decide) (by decide)) aw_116 aw_119 aw_2 (by decide +kernel) ⟨by decide, by decide⟩ rfl (Nat.le_of_ble_eq_true rfl) ⟨by decide, by decide⟩ dX7_first_22 ?_
    rintro r_ M_22 ⟨rfl, s_21⟩
    exact j_iret X hr hlocks dX7_first_25 (sm_tr sm_rf (sm_w s_21 (by intro b k hb; first | rfl | exact hb | (simp only [Bool.or_eq_false_iff, Bool.and_eq_false_iff, beq_eq_false_iff_ne, ne_eq, decide_eq_false_iff_not] at hb ⊢; omega))))
set_option maxRecDepth 100000 in
set_option maxHeartbeats 4000000 in
theorem g_X7_check (l : Launch) (D : va_G) (y : wY) (ad : Nat → Nat) (M : Mem) (n : Nat) (hn : n ≤ 9) (hm : M 12 3 = nI n) (hB : ∀ q, q < 9 → BoolOK (M (14 + q) 6)) (z2 z7 : Nat) (hT2 : TextOK M 2 z2) (hT7 : TextOK M 7 z7) (W : Nat) (hW0 : W ≤ 20) (hW : M 1 6 = nI W) : MI l D y ad yX7_check (Cond.code yX7_check cX7_check 3 (some .int)) 9 M [.ref (ad 0)] (fun _ M' => sm (fun b k => b == 6 || b == 11 || b == 78 || (decide (49 ≤ b) && decide (b ≤ 59)) || (b == 1 && k == 6)) M M') := by
  refine MI_of (by decide) (Nat.le_of_ble_eq_true rfl) ?_
  intro p e s m args below meth c X hr hlocks
  refine j_lv (lv1 := [(0, .ref (ad 0))]) [0] rfl ?_
  refine j_aload_n X 0 rfl rfl dX7_check_0 ?_
  refine j_get X (by decide) (wE_7 _ rfl) rfl awF7 0 (by decide) aw_16 rfl (v := .ref (ad 1)) rfl dX7_check_1 ?_
  refine j_getN X (by decide) (wE_6 _ rfl) rfl awF6 6 (by decide) (List.mem_of_getElem? (i := 27) rfl) rfl (v := .int (M 1 6)) rfl dX7_check_4 ?_
  refine j_eqi (v := (nI W)) hW ?_
  refine j_istore_n X [(1, .int (nI W)), (0, .ref (ad 0))] rfl (by decide) rfl dX7_check_7 ?_
  refine j_aload_n X 1 rfl rfl dX7_check_8 ?_
  refine j_get X (by decide) (wE_7 _ rfl) rfl awF7 0 (by decide) aw_16 rfl (v := .ref (ad 1)) rfl dX7_check_9 ?_
  refine j_iconst X (v := 0) (by decide) dX7_check_12 ?_
  refine j_putN X (up M 1 6 0) up_o (by decide) (wE_6 _ rfl) rfl awF6 6 (by decide) (wP_6_6 _ _ rfl) tyX6 tyX6_ok nmX6 rfl (ty := .int) (by decide +kernel) rfl rfl (Nat.le_of_ble_eq_true rfl) (List.mem_of_getElem? (i := 27) rfl) rfl dX7_check_13 ?_
  refine j_aload_n X 1 rfl rfl dX7_check_16 ?_
  refine j_callVV X (nn := 0) (As := []) (st := []) (ci := 7) (by decide) (wE_7 _ rfl) rfl aw_534 aw_535 (g_think l D y ad (up M 1 6 0) n (by omega) ((up_cell (by omega)).trans hm) (bool_keep (P := (fun b k => b == 6 || b == 11 || b == 78 || (decide (49 ≤ b) && decide (b ≤ 59)) || (b == 1 && k == 6))) (sm_up sm_rf rfl) (fun q hq => by first | rfl | (simp; done) | (simp; omega)) hB)) aw_533 aw_536 aw_2 (by decide +kernel) ⟨by decide, by decide⟩ rfl (Nat.le_of_ble_eq_true rfl) ⟨by decide, by decide⟩ dX7_check_17 ?_
  rintro M_2 ⟨s_1, s_1_g, s_1_b⟩
  refine j_iconst X (v := 0) (by decide) dX7_check_20 ?_
  refine j_istore_n X [(2, .int 0), (1, .int (nI W)), (0, .ref (ad 0))] rfl (by decide) rfl dX7_check_21 ?_
  have loop3 : ∀ (n_3 i_3 : Nat) (M3 : Mem), i_3 ≤ W → W - i_3 < n_3 → sm (fun b k => b == 6 || b == 11 || (b == 49 && (k == 4 || k == 6 || k == 7 || k == 8)) || (decide (51 ≤ b) && decide (b ≤ 59) && (k == 3 || k == 5 || k == 6))) M_2 M3 → J p l e (rmN 9) s m args below meth c 0 0 (QI (fun _ M' => sm (fun b k => b == 6 || b == 11 || b == 78 || (decide (49 ≤ b) && decide (b ≤ 59)) || (b == 1 && k == 6)) M M') D y ad M s args below) D y ad (va_A (PL y ad M) s.heap.size) 3 M3 22 [(2, .int (nI i_3)), (0, .ref (ad 0)), (1, .int (nI W))] [] := by
    intro n_3
    induction n_3 with
    | zero => intro i_3 M3 h1 h2; exact absurd h2 (by omega)
    | succ n_3 ih3 =>
      intro i_3 M3 h1i_3 h2i_3 hs3
      refine j_iload_n X 0 rfl rfl dX7_check_22 ?_
      refine j_iload_n X 2 rfl rfl dX7_check_23 ?_
      refine j_icmp_ge X 64 (by decide) dX7_check_24 (fun c_4 => ?_) (fun c_4 => ?_)
      · have c_4 := (nI_leI (by omega) (by omega)).mp (show nI (W) ≤ nI i_3 from c_4)
        refine j_iconst X (v := 0) (by decide) dX7_check_64 ?_
        exact j_iret X hr hlocks dX7_check_65 (sm_tr (sm_tr (sm_up sm_rf rfl) (sm_w s_1 (by intro b k hb; first | rfl | exact hb | (simp only [Bool.or_eq_false_iff, Bool.and_eq_false_iff, beq_eq_false_iff_ne, ne_eq, decide_eq_false_iff_not] at hb ⊢; omega)))) (sm_w hs3 (by intro b k hb; first | rfl | exact hb | (simp only [Bool.or_eq_false_iff, Bool.and_eq_false_iff, beq_eq_false_iff_ne, ne_eq, decide_eq_false_iff_not] at hb ⊢; omega))))
      · have c_4 : i_3 < W := by
          rcases Nat.lt_or_ge i_3 (W) with g | g
          · exact g
          · exact absurd (show nI (W) ≤ nI i_3 from nI_le g (by omega)) c_4
        refine j_aload_n X 1 rfl rfl dX7_check_27 ?_
        refine j_get X (by decide) (wE_7 _ rfl) rfl awF7 2 (by decide) aw_21 rfl (v := .ref (ad 49)) rfl dX7_check_28 ?_
        refine j_iconst X (v := 0) (by decide) dX7_check_31 ?_
        refine j_callVNV X (nn := 1) (As := [.int 0]) (st := []) (ci := 0) (by decide) (wE_0 _ rfl) rfl aw_439 aw_440 (g_passDay_49 l D y ad M3 n (by omega) ((hs3 49 3 rfl).trans ((s_1_g 3 (by decide) (by decide)).trans ((up_cell (by omega)).trans hm))) z2 z7 (TextOK_keep (P := (fun b k => b == 6 || b == 11 || b == 78 || (decide (49 ≤ b) && decide (b ≤ 59)) || (b == 1 && k == 6))) (sm_tr (sm_tr (sm_up sm_rf rfl) (sm_w s_1 (by intro b k hb; first | rfl | exact hb | (simp only [Bool.or_eq_false_iff, Bool.and_eq_false_iff, beq_eq_false_iff_ne, ne_eq, decide_eq_false_iff_not] at hb ⊢; omega)))) (sm_w hs3 (by intro b k hb; first | rfl | exact hb | (simp only [Bool.or_eq_false_iff, Bool.and_eq_false_iff, beq_eq_false_iff_ne, ne_eq, decide_eq_false_iff_not] at hb ⊢; omega)))) (fun _ => rfl) (fun _ => rfl) (fun _ => rfl) (fun _ => rfl) hT2) (TextOK_keep (P := (fun b k => b == 6 || b == 11 || b == 78 || (decide (49 ≤ b) && decide (b ≤ 59)) || (b == 1 && k == 6))) (sm_tr (sm_tr (sm_up sm_rf rfl) (sm_w s_1 (by intro b k hb; first | rfl | exact hb | (simp only [Bool.or_eq_false_iff, Bool.and_eq_false_iff, beq_eq_false_iff_ne, ne_eq, decide_eq_false_iff_not] at hb ⊢; omega)))) (sm_w hs3 (by intro b k hb; first | rfl | exact hb | (simp only [Bool.or_eq_false_iff, Bool.and_eq_false_iff, beq_eq_false_iff_ne, ne_eq, decide_eq_false_iff_not] at hb ⊢; omega)))) (fun _ => rfl) (fun _ => rfl) (fun _ => rfl) (fun _ => rfl) hT7) 0) (List.mem_of_getElem? (i := 27) rfl) aw_441 aw_20 (by decide +kernel) ⟨by decide, by decide⟩ rfl (Nat.le_of_ble_eq_true rfl) ⟨by decide, by decide⟩ dX7_check_32 ?_
        rintro M_6 ⟨s_5, s_5_e⟩
        refine j_aload_n X 1 rfl rfl dX7_check_35 ?_
        refine j_get X (by decide) (wE_7 _ rfl) rfl awF7 0 (by decide) aw_16 rfl (v := .ref (ad 1)) rfl dX7_check_36 ?_
        refine j_getN X (by decide) (wE_6 _ rfl) rfl awF6 4 (by decide) (List.mem_of_getElem? (i := 25) rfl) rfl (v := .ref (ad 24)) rfl dX7_check_39 ?_
        refine j_iload_n X 0 rfl rfl dX7_check_42 ?_
        refine j_iald X (by decide) rfl (show vp_in (nI i_3) 20 from vp_in_nI (by omega) (by decide)) dX7_check_43 ?_
        refine j_eqi (v := M_6 24 i_3) (by rw [nI_clamp (by omega)]) ?_
        refine j_aload_n X 1 rfl rfl dX7_check_44 ?_
        refine j_get X (by decide) (wE_7 _ rfl) rfl awF7 2 (by decide) aw_21 rfl (v := .ref (ad 49)) rfl dX7_check_45 ?_
        refine j_callVNI X (nn := 0) (As := []) (st := [.int (M_6 24 i_3)]) (ci := 0) (by decide) (wE_0 _ rfl) rfl aw_462 aw_463 (g_endedMany_49 l D y ad M_6 n (by omega) ((s_5 49 3 rfl).trans ((hs3 49 3 rfl).trans ((s_1_g 3 (by decide) (by decide)).trans ((up_cell (by omega)).trans hm))))) (List.mem_of_getElem? (i := 31) rfl) aw_464 aw_20 (by decide +kernel) ⟨by decide, by decide⟩ rfl (Nat.le_of_ble_eq_true rfl) ⟨by decide, by decide⟩ dX7_check_48 ?_
        rintro r_7 M1_ rfl
        refine j_icmp_eq X 58 (by decide) dX7_check_51 (fun c_8 => ?_) (fun c_8 => ?_)
        · refine j_iinc X (v := (nI (i_3 + 1))) 0 [(2, .int (nI (i_3 + 1))), (0, .ref (ad 0)), (1, .int (nI W))] rfl (show nI i_3 + Int32.ofInt 1 = _ from nI_1 i_3) (by decide) rfl dX7_check_58 ?_
          refine j_goto X 22 (by decide) dX7_check_61 ?_
          refine j_lv (lv1 := [(2, .int (nI (i_3 + 1))), (0, .ref (ad 0)), (1, .int (nI W))]) [0, 1, 2] rfl ?_
          exact ih3 (i_3 + 1) _ (by omega) (by omega) (sm_tr hs3 (sm_w s_5 (by intro b k hb; first | rfl | exact hb | (simp only [Bool.or_eq_false_iff, Bool.and_eq_false_iff, beq_eq_false_iff_ne, ne_eq, decide_eq_false_iff_not] at hb ⊢; omega))))
        · refine j_iconst X (v := 1) (by decide) dX7_check_54 ?_
          refine j_iload_n X 0 rfl rfl dX7_check_55 ?_
          refine j_iadd X dX7_check_56 ?_
          exact j_iret X hr hlocks dX7_check_57 (sm_tr (sm_tr (sm_tr (sm_up sm_rf rfl) (sm_w s_1 (by intro b k hb; first | rfl | exact hb | (simp only [Bool.or_eq_false_iff, Bool.and_eq_false_iff, beq_eq_false_iff_ne, ne_eq, decide_eq_false_iff_not] at hb ⊢; omega)))) (sm_w hs3 (by intro b k hb; first | rfl | exact hb | (simp only [Bool.or_eq_false_iff, Bool.and_eq_false_iff, beq_eq_false_iff_ne, ne_eq, decide_eq_false_iff_not] at hb ⊢; omega)))) (sm_w s_5 (by intro b k hb; first | rfl | exact hb | (simp only [Bool.or_eq_false_iff, Bool.and_eq_false_iff, beq_eq_false_iff_ne, ne_eq, decide_eq_false_iff_not] at hb ⊢; omega))))
  refine j_lv (lv1 := [(2, .int (nI 0)), (0, .ref (ad 0)), (1, .int (nI W))]) [0, 2, 1] rfl ?_
  exact loop3 (W + 1) 0 _ (by omega) (by omega) sm_rf
