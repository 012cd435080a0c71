theorem dX8_ofQuarrel_0 : decode cX8_ofQuarrel 0 = .ok (.aload_n 0, 1) := by decide +kernel
theorem dX8_ofQuarrel_1 : decode cX8_ofQuarrel 1 = .ok (.iload_n 1, 1) := by decide +kernel
theorem dX8_ofQuarrel_2 : decode cX8_ofQuarrel 2 = .ok (.invokevirtual 73, 3) := by decide +kernel
theorem dX8_ofQuarrel_5 : decode cX8_ofQuarrel 5 = .ok (.ifCond .eq 13, 3) := by decide +kernel
theorem dX8_ofQuarrel_18 : decode cX8_ofQuarrel 18 = .ok (.aload_n 0, 1) := by decide +kernel
theorem dX8_ofQuarrel_19 : decode cX8_ofQuarrel 19 = .ok (.ldc 60, 2) := by decide +kernel
theorem dX8_ofQuarrel_21 : decode cX8_ofQuarrel 21 = .ok (.invokevirtual 61, 3) := by decide +kernel
theorem dX8_ofQuarrel_24 : decode cX8_ofQuarrel 24 = .ok (.ireturn, 1) := by decide +kernel
theorem dX8_become_0 : decode cX8_become 0 = .ok (.aload_n 0, 1) := by decide +kernel
theorem dX8_become_1 : decode cX8_become 1 = .ok (.iload_n 1, 1) := by decide +kernel
theorem dX8_become_2 : decode cX8_become 2 = .ok (.invokevirtual 73, 3) := by decide +kernel
theorem dX8_become_5 : decode cX8_become 5 = .ok (.ifCond .eq 13, 3) := by decide +kernel
theorem dX8_become_18 : decode cX8_become 18 = .ok (.aload_n 0, 1) := by decide +kernel
theorem dX8_become_19 : decode cX8_become 19 = .ok (.ldc 60, 2) := by decide +kernel
theorem dX8_become_21 : decode cX8_become 21 = .ok (.invokevirtual 61, 3) := by decide +kernel
theorem dX8_become_24 : decode cX8_become 24 = .ok (.ireturn, 1) := by decide +kernel
theorem dX8_as_0 : decode cX8_as 0 = .ok (.aload_n 0, 1) := by decide +kernel
theorem dX8_as_1 : decode cX8_as 1 = .ok (.iload_n 1, 1) := by decide +kernel
theorem dX8_as_2 : decode cX8_as 2 = .ok (.invokevirtual 73, 3) := by decide +kernel
theorem dX8_as_5 : decode cX8_as 5 = .ok (.ifCond .eq 13, 3) := by decide +kernel
theorem dX8_as_18 : decode cX8_as 18 = .ok (.aload_n 0, 1) := by decide +kernel
theorem dX8_as_19 : decode cX8_as 19 = .ok (.ldc 60, 2) := by decide +kernel
theorem dX8_as_21 : decode cX8_as 21 = .ok (.invokevirtual 61, 3) := by decide +kernel
theorem dX8_as_24 : decode cX8_as 24 = .ok (.ireturn, 1) := by decide +kernel
theorem dX8_when_0 : decode cX8_when 0 = .ok (.aload_n 0, 1) := by decide +kernel
theorem dX8_when_1 : decode cX8_when 1 = .ok (.iload_n 1, 1) := by decide +kernel
theorem dX8_when_2 : decode cX8_when 2 = .ok (.invokevirtual 73, 3) := by decide +kernel
theorem dX8_when_5 : decode cX8_when 5 = .ok (.ifCond .ne 10, 3) := by decide +kernel
theorem dX8_when_8 : decode cX8_when 8 = .ok (.aload_n 0, 1) := by decide +kernel
theorem dX8_when_9 : decode cX8_when 9 = .ok (.ldc 60, 2) := by decide +kernel
theorem dX8_when_11 : decode cX8_when 11 = .ok (.invokevirtual 61, 3) := by decide +kernel
theorem dX8_when_14 : decode cX8_when 14 = .ok (.ireturn, 1) := by decide +kernel
theorem dX8_chain_0 : decode cX8_chain 0 = .ok (.aload_n 0, 1) := by decide +kernel
theorem dX8_chain_1 : decode cX8_chain 1 = .ok (.iload_n 1, 1) := by decide +kernel
theorem dX8_chain_2 : decode cX8_chain 2 = .ok (.invokevirtual 73, 3) := by decide +kernel
theorem dX8_chain_5 : decode cX8_chain 5 = .ok (.ifCond .ne 10, 3) := by decide +kernel
theorem dX8_chain_8 : decode cX8_chain 8 = .ok (.aload_n 0, 1) := by decide +kernel
theorem dX8_chain_9 : decode cX8_chain 9 = .ok (.ldc 60, 2) := by decide +kernel
theorem dX8_chain_11 : decode cX8_chain 11 = .ok (.invokevirtual 61, 3) := by decide +kernel
theorem dX8_chain_14 : decode cX8_chain 14 = .ok (.ireturn, 1) := by decide +kernel
theorem dX8_hand_0 : decode cX8_hand 0 = .ok (.aload_n 0, 1) := by decide +kernel
theorem dX8_hand_1 : decode cX8_hand 1 = .ok (.iload_n 1, 1) := by decide +kernel
theorem dX8_hand_2 : decode cX8_hand 2 = .ok (.invokevirtual 73, 3) := by decide +kernel
theorem dX8_hand_5 : decode cX8_hand 5 = .ok (.ifCond .eq 13, 3) := by decide +kernel
theorem dX8_hand_18 : decode cX8_hand 18 = .ok (.aload_n 0, 1) := by decide +kernel
theorem dX8_hand_19 : decode cX8_hand 19 = .ok (.ldc 60, 2) := by decide +kernel
theorem dX8_hand_21 : decode cX8_hand 21 = .ok (.invokevirtual 61, 3) := by decide +kernel
theorem dX8_hand_24 : decode cX8_hand 24 = .ok (.ireturn, 1) := by decide +kernel
theorem dX8_sharp_0 : decode cX8_sharp 0 = .ok (.aload_n 0, 1) := by decide +kernel
theorem dX8_sharp_1 : decode cX8_sharp 1 = .ok (.iload_n 1, 1) := by decide +kernel
theorem dX8_sharp_2 : decode cX8_sharp 2 = .ok (.invokevirtual 73, 3) := by decide +kernel
theorem dX8_sharp_5 : decode cX8_sharp 5 = .ok (.ifCond .eq 13, 3) := by decide +kernel
theorem dX8_sharp_18 : decode cX8_sharp 18 = .ok (.aload_n 0, 1) := by decide +kernel
theorem dX8_sharp_19 : decode cX8_sharp 19 = .ok (.ldc 60, 2) := by decide +kernel
theorem dX8_sharp_21 : decode cX8_sharp 21 = .ok (.invokevirtual 61, 3) := by decide +kernel
theorem dX8_sharp_24 : decode cX8_sharp 24 = .ok (.ireturn, 1) := by decide +kernel
theorem dX8_odds_0 : decode cX8_odds 0 = .ok (.aload_n 0, 1) := by decide +kernel
theorem dX8_odds_1 : decode cX8_odds 1 = .ok (.iload_n 1, 1) := by decide +kernel
theorem dX8_odds_2 : decode cX8_odds 2 = .ok (.invokevirtual 73, 3) := by decide +kernel
theorem dX8_odds_5 : decode cX8_odds 5 = .ok (.ifCond .eq 22, 3) := by decide +kernel
theorem dX8_odds_27 : decode cX8_odds 27 = .ok (.aload_n 0, 1) := by decide +kernel
theorem dX8_odds_28 : decode cX8_odds 28 = .ok (.ldc 60, 2) := by decide +kernel
theorem dX8_odds_30 : decode cX8_odds 30 = .ok (.invokevirtual 61, 3) := by decide +kernel
theorem dX8_odds_33 : decode cX8_odds 33 = .ok (.ireturn, 1) := by decide +kernel
theorem dX8_voice_0 : decode cX8_voice 0 = .ok (.aload_n 0, 1) := by decide +kernel
theorem dX8_voice_1 : decode cX8_voice 1 = .ok (.iload_n 1, 1) := by decide +kernel
theorem dX8_voice_2 : decode cX8_voice 2 = .ok (.invokevirtual 73, 3) := by decide +kernel
theorem dX8_voice_5 : decode cX8_voice 5 = .ok (.ifCond .eq 12, 3) := by decide +kernel
theorem dX8_voice_17 : decode cX8_voice 17 = .ok (.aload_n 0, 1) := by decide +kernel
theorem dX8_voice_18 : decode cX8_voice 18 = .ok (.ldc 60, 2) := by decide +kernel
theorem dX8_voice_20 : decode cX8_voice 20 = .ok (.invokevirtual 61, 3) := by decide +kernel
theorem dX8_voice_23 : decode cX8_voice 23 = .ok (.ireturn, 1) := by decide +kernel
theorem dX8_then_0 : decode cX8_then 0 = .ok (.iload_n 1, 1) := by decide +kernel
theorem dX8_then_1 : decode cX8_then 1 = .ok (.iconst 0, 1) := by decide +kernel
theorem dX8_then_2 : decode cX8_then 2 = .ok (.bipush 60, 2) := by decide +kernel
theorem dX8_then_4 : decode cX8_then 4 = .ok (.invokestatic 47, 3) := by decide +kernel
theorem dX8_then_7 : decode cX8_then 7 = .ok (.ifCond .eq 20, 3) := by decide +kernel
theorem dX8_then_10 : decode cX8_then 10 = .ok (.aload_n 0, 1) := by decide +kernel
theorem dX8_then_11 : decode cX8_then 11 = .ok (.iload_n 2, 1) := by decide +kernel
theorem dX8_then_12 : decode cX8_then 12 = .ok (.invokevirtual 73, 3) := by decide +kernel
theorem dX8_then_15 : decode cX8_then 15 = .ok (.ifCond .eq 12, 3) := by decide +kernel
theorem dX8_then_27 : decode cX8_then 27 = .ok (.aload_n 0, 1) := by decide +kernel
theorem dX8_then_28 : decode cX8_then 28 = .ok (.ldc 60, 2) := by decide +kernel
theorem dX8_then_30 : decode cX8_then 30 = .ok (.invokevirtual 61, 3) := by decide +kernel
theorem dX8_then_33 : decode cX8_then 33 = .ok (.ireturn, 1) := by decide +kernel
theorem dX8_change_0 : decode cX8_change 0 = .ok (.iload_n 2, 1) := by decide +kernel
theorem dX8_change_1 : decode cX8_change 1 = .ok (.ifCond .ne 10, 3) := by decide +kernel
theorem dX8_change_11 : decode cX8_change 11 = .ok (.iload_n 2, 1) := by decide +kernel
theorem dX8_change_12 : decode cX8_change 12 = .ok (.iconst 1, 1) := by decide +kernel
theorem dX8_change_13 : decode cX8_change 13 = .ok (.if_icmp .ne 13, 3) := by decide +kernel
theorem dX8_change_26 : decode cX8_change 26 = .ok (.iload_n 2, 1) := by decide +kernel
theorem dX8_change_27 : decode cX8_change 27 = .ok (.iconst 2, 1) := by decide +kernel
theorem dX8_change_28 : decode cX8_change 28 = .ok (.if_icmp .ne 12, 3) := by decide +kernel
theorem dX8_change_40 : decode cX8_change 40 = .ok (.iload_n 2, 1) := by decide +kernel
theorem dX8_change_41 : decode cX8_change 41 = .ok (.iconst 3, 1) := by decide +kernel
theorem dX8_change_42 : decode cX8_change 42 = .ok (.if_icmp .ne 18, 3) := by decide +kernel
theorem dX8_change_60 : decode cX8_change 60 = .ok (.iconst 0, 1) := by decide +kernel
theorem dX8_change_61 : decode cX8_change 61 = .ok (.istore 4, 2) := by decide +kernel
theorem dX8_change_63 : decode cX8_change 63 = .ok (.aload_n 0, 1) := by decide +kernel
theorem dX8_change_64 : decode cX8_change 64 = .ok (.iload_n 1, 1) := by decide +kernel
theorem dX8_change_65 : decode cX8_change 65 = .ok (.invokevirtual 73, 3) := by decide +kernel
theorem dX8_change_68 : decode cX8_change 68 = .ok (.ifCond .eq 8, 3) := by decide +kernel
theorem dX8_change_76 : decode cX8_change 76 = .ok (.aload_n 0, 1) := by decide +kernel
theorem dX8_change_77 : decode cX8_change 77 = .ok (.ldc 60, 2) := by decide +kernel
theorem dX8_change_79 : decode cX8_change 79 = .ok (.invokevirtual 61, 3) := by decide +kernel
theorem dX8_change_82 : decode cX8_change 82 = .ok (.ireturn, 1) := by decide +kernel
theorem dX8_change_45 : decode cX8_change 45 = .ok (.iload_n 3, 1) := by decide +kernel
theorem dX8_change_46 : decode cX8_change 46 = .ok (.iconst 0, 1) := by decide +kernel
theorem dX8_change_47 : decode cX8_change 47 = .ok (.sipush 999, 3) := by decide +kernel
theorem dX8_change_50 : decode cX8_change 50 = .ok (.invokestatic 47, 3) := by decide +kernel
theorem dX8_change_53 : decode cX8_change 53 = .ok (.ifCond .eq 7, 3) := by decide +kernel
theorem dX8_change_56 : decode cX8_change 56 = .ok (.iconst 1, 1) := by decide +kernel
theorem dX8_change_57 : decode cX8_change 57 = .ok (.goto 4, 3) := by decide +kernel
theorem dX8_change_31 : decode cX8_change 31 = .ok (.iload_n 3, 1) := by decide +kernel
theorem dX8_change_32 : decode cX8_change 32 = .ok (.iconst 0, 1) := by decide +kernel
theorem dX8_change_33 : decode cX8_change 33 = .ok (.iconst 1, 1) := by decide +kernel
theorem dX8_change_34 : decode cX8_change 34 = .ok (.invokestatic 47, 3) := by decide +kernel
theorem dX8_change_37 : decode cX8_change 37 = .ok (.goto 24, 3) := by decide +kernel
theorem dX8_change_16 : decode cX8_change 16 = .ok (.iload_n 3, 1) := by decide +kernel
theorem dX8_change_17 : decode cX8_change 17 = .ok (.iconst 0, 1) := by decide +kernel
theorem dX8_change_18 : decode cX8_change 18 = .ok (.bipush 99, 2) := by decide +kernel
theorem dX8_change_20 : decode cX8_change 20 = .ok (.invokestatic 47, 3) := by decide +kernel
theorem dX8_change_23 : decode cX8_change 23 = .ok (.goto 38, 3) := by decide +kernel
theorem dX8_change_4 : decode cX8_change 4 = .ok (.iload_n 3, 1) := by decide +kernel
theorem dX8_change_5 : decode cX8_change 5 = .ok (.invokestatic 51, 3) := by decide +kernel
theorem dX8_change_8 : decode cX8_change 8 = .ok (.goto 53, 3) := by decide +kernel
theorem dX8_inArea_0 : decode cX8_inArea 0 = .ok (.iload_n 1, 1) := by decide +kernel
theorem dX8_inArea_1 : decode cX8_inArea 1 = .ok (.invokestatic 51, 3) := by decide +kernel
theorem dX8_inArea_4 : decode cX8_inArea 4 = .ok (.ifCond .ne 10, 3) := by decide +kernel
theorem dX8_inArea_14 : decode cX8_inArea 14 = .ok (.iconst 0, 1) := by decide +kernel
theorem dX8_inArea_15 : decode cX8_inArea 15 = .ok (.istore_n 2, 1) := by decide +kernel
theorem dX8_inArea_16 : decode cX8_inArea 16 = .ok (.iconst 0, 1) := by decide +kernel
theorem dX8_inArea_17 : decode cX8_inArea 17 = .ok (.istore_n 3, 1) := by decide +kernel
theorem dX8_inArea_18 : decode cX8_inArea 18 = .ok (.iload_n 3, 1) := by decide +kernel
theorem dX8_inArea_19 : decode cX8_inArea 19 = .ok (.aload_n 0, 1) := by decide +kernel
theorem dX8_inArea_20 : decode cX8_inArea 20 = .ok (.getfield 7, 3) := by decide +kernel
theorem dX8_inArea_23 : decode cX8_inArea 23 = .ok (.iconst 2, 1) := by decide +kernel
theorem dX8_inArea_24 : decode cX8_inArea 24 = .ok (.iaload, 1) := by decide +kernel
theorem dX8_inArea_25 : decode cX8_inArea 25 = .ok (.if_icmp .ge 29, 3) := by decide +kernel
theorem dX8_inArea_54 : decode cX8_inArea 54 = .ok (.iload_n 2, 1) := by decide +kernel
theorem dX8_inArea_55 : decode cX8_inArea 55 = .ok (.ireturn, 1) := by decide +kernel
theorem dX8_inArea_7 : decode cX8_inArea 7 = .ok (.aload_n 0, 1) := by decide +kernel
theorem dX8_inArea_8 : decode cX8_inArea 8 = .ok (.ldc 60, 2) := by decide +kernel
theorem dX8_inArea_10 : decode cX8_inArea 10 = .ok (.invokevirtual 61, 3) := by decide +kernel
theorem dX8_inArea_13 : decode cX8_inArea 13 = .ok (.ireturn, 1) := by decide +kernel
theorem dX8_becomes_0 : decode cX8_becomes 0 = .ok (.aload_n 0, 1) := by decide +kernel
theorem dX8_becomes_1 : decode cX8_becomes 1 = .ok (.getfield 7, 3) := by decide +kernel
theorem dX8_becomes_4 : decode cX8_becomes 4 = .ok (.iload_n 1, 1) := by decide +kernel
theorem dX8_becomes_5 : decode cX8_becomes 5 = .ok (.iaload, 1) := by decide +kernel
theorem dX8_becomes_6 : decode cX8_becomes 6 = .ok (.istore_n 3, 1) := by decide +kernel
theorem dX8_becomes_7 : decode cX8_becomes 7 = .ok (.aload_n 0, 1) := by decide +kernel
theorem dX8_becomes_8 : decode cX8_becomes 8 = .ok (.getfield 7, 3) := by decide +kernel
theorem dX8_becomes_11 : decode cX8_becomes 11 = .ok (.iload_n 1, 1) := by decide +kernel
theorem dX8_becomes_12 : decode cX8_becomes 12 = .ok (.iload_n 2, 1) := by decide +kernel
theorem dX8_becomes_13 : decode cX8_becomes 13 = .ok (.iastore, 1) := by decide +kernel
theorem dX8_becomes_14 : decode cX8_becomes 14 = .ok (.iload_n 3, 1) := by decide +kernel
theorem dX8_becomes_15 : decode cX8_becomes 15 = .ok (.ireturn, 1) := by decide +kernel
theorem dX8_set_0 : decode cX8_set 0 = .ok (.iload_n 1, 1) := by decide +kernel
theorem dX8_set_1 : decode cX8_set 1 = .ok (.iconst 0, 1) := by decide +kernel
theorem dX8_set_2 : decode cX8_set 2 = .ok (.iconst 1, 1) := by decide +kernel
theorem dX8_set_3 : decode cX8_set 3 = .ok (.invokestatic 47, 3) := by decide +kernel
theorem dX8_set_6 : decode cX8_set 6 = .ok (.ifCond .eq 10, 3) := by decide +kernel
theorem dX8_set_9 : decode cX8_set 9 = .ok (.iload_n 2, 1) := by decide +kernel
theorem dX8_set_10 : decode cX8_set 10 = .ok (.invokestatic 51, 3) := by decide +kernel
theorem dX8_set_13 : decode cX8_set 13 = .ok (.goto 27, 3) := by decide +kernel
theorem dX8_set_40 : decode cX8_set 40 = .ok (.istore_n 3, 1) := by decide +kernel
theorem dX8_set_41 : decode cX8_set 41 = .ok (.iload_n 3, 1) := by decide +kernel
theorem dX8_set_42 : decode cX8_set 42 = .ok (.ifCond .eq 15, 3) := by decide +kernel
theorem dX8_set_45 : decode cX8_set 45 = .ok (.aload_n 0, 1) := by decide +kernel
theorem dX8_set_46 : decode cX8_set 46 = .ok (.bipush 7, 2) := by decide +kernel
theorem dX8_set_48 : decode cX8_set 48 = .ok (.iload_n 1, 1) := by decide +kernel
theorem dX8_set_49 : decode cX8_set 49 = .ok (.iadd, 1) := by decide +kernel
theorem dX8_set_50 : decode cX8_set 50 = .ok (.iload_n 2, 1) := by decide +kernel
theorem dX8_set_51 : decode cX8_set 51 = .ok (.invokevirtual 56, 3) := by decide +kernel
theorem dX8_set_54 : decode cX8_set 54 = .ok (.goto 9, 3) := by decide +kernel
theorem dX8_set_63 : decode cX8_set 63 = .ok (.ireturn, 1) := by decide +kernel
theorem dX8_set_57 : decode cX8_set 57 = .ok (.aload_n 0, 1) := by decide +kernel
theorem dX8_set_58 : decode cX8_set 58 = .ok (.ldc 60, 2) := by decide +kernel
theorem dX8_set_60 : decode cX8_set 60 = .ok (.invokevirtual 61, 3) := by decide +kernel
theorem dX8_set_16 : decode cX8_set 16 = .ok (.iload_n 1, 1) := by decide +kernel
theorem dX8_set_17 : decode cX8_set 17 = .ok (.iconst 2, 1) := by decide +kernel
theorem dX8_set_18 : decode cX8_set 18 = .ok (.iconst 3, 1) := by decide +kernel
theorem dX8_set_19 : decode cX8_set 19 = .ok (.invokestatic 47, 3) := by decide +kernel
theorem dX8_set_22 : decode cX8_set 22 = .ok (.ifCond .eq 17, 3) := by decide +kernel
theorem dX8_set_25 : decode cX8_set 25 = .ok (.iload_n 2, 1) := by decide +kernel
theorem dX8_set_26 : decode cX8_set 26 = .ok (.iconst 0, 1) := by decide +kernel
theorem dX8_set_27 : decode cX8_set 27 = .ok (.ldc 55, 2) := by decide +kernel
theorem dX8_set_29 : decode cX8_set 29 = .ok (.invokestatic 47, 3) := by decide +kernel
theorem dX8_set_32 : decode cX8_set 32 = .ok (.ifCond .eq 7, 3) := by decide +kernel
theorem dX8_set_35 : decode cX8_set 35 = .ok (.iconst 1, 1) := by decide +kernel
theorem dX8_set_36 : decode cX8_set 36 = .ok (.goto 4, 3) := by decide +kernel
theorem dX8_set_39 : decode cX8_set 39 = .ok (.iconst 0, 1) := by decide +kernel
theorem dX8_held_0 : decode cX8_held 0 = .ok (.iload_n 0, 1) := by decide +kernel
theorem dX8_held_1 : decode cX8_held 1 = .ok (.iload_n 1, 1) := by decide +kernel
theorem dX8_held_2 : decode cX8_held 2 = .ok (.if_icmp .ge 7, 3) := by decide +kernel
theorem dX8_held_9 : decode cX8_held 9 = .ok (.iload_n 0, 1) := by decide +kernel
theorem dX8_held_10 : decode cX8_held 10 = .ok (.iload_n 2, 1) := by decide +kernel
theorem dX8_held_11 : decode cX8_held 11 = .ok (.if_icmp .le 7, 3) := by decide +kernel
theorem dX8_held_18 : decode cX8_held 18 = .ok (.iload_n 0, 1) := by decide +kernel
theorem dX8_held_19 : decode cX8_held 19 = .ok (.ireturn, 1) := by decide +kernel
theorem dX8_held_14 : decode cX8_held 14 = .ok (.iload_n 2, 1) := by decide +kernel
theorem dX8_held_15 : decode cX8_held 15 = .ok (.goto 4, 3) := by decide +kernel
theorem dX8_held_5 : decode cX8_held 5 = .ok (.iload_n 1, 1) := by decide +kernel
theorem dX8_held_6 : decode cX8_held 6 = .ok (.goto 13, 3) := by decide +kernel
theorem dX8_lawOf_0 : decode cX8_lawOf 0 = .ok (.aload_n 0, 1) := by decide +kernel
theorem dX8_lawOf_1 : decode cX8_lawOf 1 = .ok (.getfield 7, 3) := by decide +kernel
theorem dX8_lawOf_4 : decode cX8_lawOf 4 = .ok (.iconst 5, 1) := by decide +kernel
theorem dX8_lawOf_5 : decode cX8_lawOf 5 = .ok (.iload_n 1, 1) := by decide +kernel
theorem dX8_lawOf_6 : decode cX8_lawOf 6 = .ok (.iadd, 1) := by decide +kernel
theorem dX8_lawOf_7 : decode cX8_lawOf 7 = .ok (.iaload, 1) := by decide +kernel
theorem dX8_lawOf_8 : decode cX8_lawOf 8 = .ok (.ifCond .lt 19, 3) := by decide +kernel
theorem dX8_lawOf_27 : decode cX8_lawOf 27 = .ok (.iload_n 1, 1) := by decide +kernel
theorem dX8_lawOf_28 : decode cX8_lawOf 28 = .ok (.ifCond .ne 8, 3) := by decide +kernel
theorem dX8_lawOf_31 : decode cX8_lawOf 31 = .ok (.bipush 20, 2) := by decide +kernel
theorem dX8_lawOf_33 : decode cX8_lawOf 33 = .ok (.goto 10, 3) := by decide +kernel
theorem dX8_lawOf_43 : decode cX8_lawOf 43 = .ok (.iconst 0, 1) := by decide +kernel
theorem dX8_lawOf_44 : decode cX8_lawOf 44 = .ok (.bipush 99, 2) := by decide +kernel
theorem dX8_lawOf_46 : decode cX8_lawOf 46 = .ok (.invokestatic 151, 3) := by decide +kernel
theorem dX8_lawOf_49 : decode cX8_lawOf 49 = .ok (.ireturn, 1) := by decide +kernel
theorem dX8_lawOf_36 : decode cX8_lawOf 36 = .ok (.bipush 9, 2) := by decide +kernel
theorem dX8_lawOf_38 : decode cX8_lawOf 38 = .ok (.iload_n 2, 1) := by decide +kernel
theorem dX8_lawOf_39 : decode cX8_lawOf 39 = .ok (.bipush 11, 2) := by decide +kernel
theorem dX8_lawOf_41 : decode cX8_lawOf 41 = .ok (.idiv, 1) := by decide +kernel
theorem dX8_lawOf_42 : decode cX8_lawOf 42 = .ok (.isub, 1) := by decide +kernel
theorem dX8_law_0 : decode cX8_law 0 = .ok (.iload_n 1, 1) := by decide +kernel
theorem dX8_law_1 : decode cX8_law 1 = .ok (.iconst 0, 1) := by decide +kernel
theorem dX8_law_2 : decode cX8_law 2 = .ok (.iconst 1, 1) := by decide +kernel
theorem dX8_law_3 : decode cX8_law 3 = .ok (.invokestatic 47, 3) := by decide +kernel
theorem dX8_law_6 : decode cX8_law 6 = .ok (.ifCond .eq 15, 3) := by decide +kernel
theorem dX8_law_9 : decode cX8_law 9 = .ok (.aload_n 0, 1) := by decide +kernel
theorem dX8_law_10 : decode cX8_law 10 = .ok (.iload_n 1, 1) := by decide +kernel
theorem dX8_law_11 : decode cX8_law 11 = .ok (.iload_n 2, 1) := by decide +kernel
theorem dX8_law_12 : decode cX8_law 12 = .ok (.iload_n 3, 1) := by decide +kernel
theorem dX8_law_13 : decode cX8_law 13 = .ok (.iload 4, 2) := by decide +kernel
theorem dX8_law_15 : decode cX8_law 15 = .ok (.invokevirtual 154, 3) := by decide +kernel
theorem dX8_law_18 : decode cX8_law 18 = .ok (.goto 9, 3) := by decide +kernel
theorem dX8_law_27 : decode cX8_law 27 = .ok (.ireturn, 1) := by decide +kernel
theorem dX8_law_21 : decode cX8_law 21 = .ok (.aload_n 0, 1) := by decide +kernel
theorem dX8_law_22 : decode cX8_law 22 = .ok (.ldc 60, 2) := by decide +kernel
theorem dX8_law_24 : decode cX8_law 24 = .ok (.invokevirtual 61, 3) := by decide +kernel
theorem dX8_days_0 : decode cX8_days 0 = .ok (.iload_n 1, 1) := by decide +kernel
theorem dX8_days_1 : decode cX8_days 1 = .ok (.iconst 1, 1) := by decide +kernel
theorem dX8_days_2 : decode cX8_days 2 = .ok (.bipush 60, 2) := by decide +kernel
theorem dX8_days_4 : decode cX8_days 4 = .ok (.invokestatic 47, 3) := by decide +kernel
theorem dX8_days_7 : decode cX8_days 7 = .ok (.ifCond .ne 10, 3) := by decide +kernel
theorem dX8_days_17 : decode cX8_days 17 = .ok (.aload_n 0, 1) := by decide +kernel
theorem dX8_days_18 : decode cX8_days 18 = .ok (.getfield 7, 3) := by decide +kernel
theorem dX8_days_21 : decode cX8_days 21 = .ok (.iconst 0, 1) := by decide +kernel
theorem dX8_days_22 : decode cX8_days 22 = .ok (.iaload, 1) := by decide +kernel
theorem dX8_days_23 : decode cX8_days 23 = .ok (.iload_n 1, 1) := by decide +kernel
theorem dX8_days_24 : decode cX8_days 24 = .ok (.iadd, 1) := by decide +kernel
theorem dX8_days_25 : decode cX8_days 25 = .ok (.sipush 9999, 3) := by decide +kernel
theorem dX8_days_28 : decode cX8_days 28 = .ok (.if_icmp .le 10, 3) := by decide +kernel
theorem dX8_days_38 : decode cX8_days 38 = .ok (.aload_n 0, 1) := by decide +kernel
theorem dX8_days_39 : decode cX8_days 39 = .ok (.iload_n 1, 1) := by decide +kernel
theorem dX8_days_40 : decode cX8_days 40 = .ok (.invokevirtual 179, 3) := by decide +kernel
theorem dX8_days_43 : decode cX8_days 43 = .ok (.aload_n 0, 1) := by decide +kernel
theorem dX8_days_44 : decode cX8_days 44 = .ok (.invokevirtual 182, 3) := by decide +kernel
theorem dX8_days_47 : decode cX8_days 47 = .ok (.invokestatic 187, 3) := by decide +kernel
theorem dX8_days_50 : decode cX8_days 50 = .ok (.ireturn, 1) := by decide +kernel
theorem dX8_days_10 : decode cX8_days 10 = .ok (.aload_n 0, 1) := by decide +kernel
theorem dX8_days_11 : decode cX8_days 11 = .ok (.ldc 60, 2) := by decide +kernel
theorem dX8_days_13 : decode cX8_days 13 = .ok (.invokevirtual 61, 3) := by decide +kernel
theorem dX8_days_16 : decode cX8_days 16 = .ok (.ireturn, 1) := by decide +kernel
theorem dX8_drawn_0 : decode cX8_drawn 0 = .ok (.aload_n 0, 1) := by decide +kernel
theorem dX8_drawn_1 : decode cX8_drawn 1 = .ok (.getfield 7, 3) := by decide +kernel
theorem dX8_drawn_4 : decode cX8_drawn 4 = .ok (.iconst 1, 1) := by decide +kernel
theorem dX8_drawn_5 : decode cX8_drawn 5 = .ok (.aload_n 0, 1) := by decide +kernel
theorem dX8_drawn_6 : decode cX8_drawn 6 = .ok (.getfield 7, 3) := by decide +kernel
theorem dX8_drawn_9 : decode cX8_drawn 9 = .ok (.iconst 1, 1) := by decide +kernel
theorem dX8_drawn_10 : decode cX8_drawn 10 = .ok (.iaload, 1) := by decide +kernel
theorem dX8_drawn_11 : decode cX8_drawn 11 = .ok (.ldc 190, 2) := by decide +kernel
theorem dX8_drawn_13 : decode cX8_drawn 13 = .ok (.imul, 1) := by decide +kernel
theorem dX8_drawn_14 : decode cX8_drawn 14 = .ok (.sipush 12345, 3) := by decide +kernel
theorem dX8_drawn_17 : decode cX8_drawn 17 = .ok (.iadd, 1) := by decide +kernel
theorem dX8_drawn_18 : decode cX8_drawn 18 = .ok (.iastore, 1) := by decide +kernel
theorem dX8_drawn_19 : decode cX8_drawn 19 = .ok (.aload_n 0, 1) := by decide +kernel
theorem dX8_drawn_20 : decode cX8_drawn 20 = .ok (.getfield 7, 3) := by decide +kernel
theorem dX8_drawn_23 : decode cX8_drawn 23 = .ok (.iconst 1, 1) := by decide +kernel
theorem dX8_drawn_24 : decode cX8_drawn 24 = .ok (.iaload, 1) := by decide +kernel
theorem dX8_drawn_25 : decode cX8_drawn 25 = .ok (.bipush 8, 2) := by decide +kernel
theorem dX8_drawn_27 : decode cX8_drawn 27 = .ok (.iushr, 1) := by decide +kernel
theorem dX8_drawn_28 : decode cX8_drawn 28 = .ok (.iload_n 1, 1) := by decide +kernel
theorem dX8_drawn_29 : decode cX8_drawn 29 = .ok (.irem, 1) := by decide +kernel
theorem dX8_drawn_30 : decode cX8_drawn 30 = .ok (.ireturn, 1) := by decide +kernel
theorem dX8_loose_0 : decode cX8_loose 0 = .ok (.iload_n 1, 1) := by decide +kernel
theorem dX8_loose_1 : decode cX8_loose 1 = .ok (.iconst 1, 1) := by decide +kernel
theorem dX8_loose_2 : decode cX8_loose 2 = .ok (.bipush 40, 2) := by decide +kernel
theorem dX8_loose_4 : decode cX8_loose 4 = .ok (.invokestatic 47, 3) := by decide +kernel
theorem dX8_loose_7 : decode cX8_loose 7 = .ok (.ifCond .ne 10, 3) := by decide +kernel
theorem dX8_loose_17 : decode cX8_loose 17 = .ok (.aload_n 0, 1) := by decide +kernel
theorem dX8_loose_18 : decode cX8_loose 18 = .ok (.getfield 7, 3) := by decide +kernel
theorem dX8_loose_21 : decode cX8_loose 21 = .ok (.iconst 0, 1) := by decide +kernel
theorem dX8_loose_22 : decode cX8_loose 22 = .ok (.iaload, 1) := by decide +kernel
theorem dX8_loose_23 : decode cX8_loose 23 = .ok (.iload_n 1, 1) := by decide +kernel
theorem dX8_loose_24 : decode cX8_loose 24 = .ok (.iadd, 1) := by decide +kernel
theorem dX8_loose_25 : decode cX8_loose 25 = .ok (.sipush 9999, 3) := by decide +kernel
theorem dX8_loose_28 : decode cX8_loose 28 = .ok (.if_icmp .le 10, 3) := by decide +kernel
theorem dX8_loose_38 : decode cX8_loose 38 = .ok (.iconst 0, 1) := by decide +kernel
theorem dX8_loose_39 : decode cX8_loose 39 = .ok (.istore_n 2, 1) := by decide +kernel
theorem dX8_loose_40 : decode cX8_loose 40 = .ok (.iload_n 2, 1) := by decide +kernel
theorem dX8_loose_41 : decode cX8_loose 41 = .ok (.iload_n 1, 1) := by decide +kernel
theorem dX8_loose_42 : decode cX8_loose 42 = .ok (.if_icmp .ge 27, 3) := by decide +kernel
theorem dX8_loose_69 : decode cX8_loose 69 = .ok (.aload_n 0, 1) := by decide +kernel
theorem dX8_loose_70 : decode cX8_loose 70 = .ok (.invokevirtual 182, 3) := by decide +kernel
theorem dX8_loose_73 : decode cX8_loose 73 = .ok (.invokestatic 187, 3) := by decide +kernel
theorem dX8_loose_76 : decode cX8_loose 76 = .ok (.ireturn, 1) := by decide +kernel
theorem dX8_loose_45 : decode cX8_loose 45 = .ok (.aload_n 0, 1) := by decide +kernel
theorem dX8_loose_46 : decode cX8_loose 46 = .ok (.getfield 7, 3) := by decide +kernel
theorem dX8_loose_49 : decode cX8_loose 49 = .ok (.bipush 8, 2) := by decide +kernel
theorem dX8_loose_51 : decode cX8_loose 51 = .ok (.aload_n 0, 1) := by decide +kernel
theorem dX8_loose_52 : decode cX8_loose 52 = .ok (.bipush 10, 2) := by decide +kernel
theorem dX8_loose_54 : decode cX8_loose 54 = .ok (.invokevirtual 191, 3) := by decide +kernel
theorem dX8_loose_57 : decode cX8_loose 57 = .ok (.iastore, 1) := by decide +kernel
theorem dX8_loose_58 : decode cX8_loose 58 = .ok (.aload_n 0, 1) := by decide +kernel
theorem dX8_loose_59 : decode cX8_loose 59 = .ok (.iconst 1, 1) := by decide +kernel
theorem dX8_loose_60 : decode cX8_loose 60 = .ok (.invokevirtual 171, 3) := by decide +kernel
theorem dX8_loose_63 : decode cX8_loose 63 = .ok (.iinc 2 1, 3) := by decide +kernel
theorem dX8_loose_66 : decode cX8_loose 66 = .ok (.goto (-26), 3) := by decide +kernel
theorem dX8_loose_10 : decode cX8_loose 10 = .ok (.aload_n 0, 1) := by decide +kernel
theorem dX8_loose_11 : decode cX8_loose 11 = .ok (.ldc 60, 2) := by decide +kernel
theorem dX8_loose_13 : decode cX8_loose 13 = .ok (.invokevirtual 61, 3) := by decide +kernel
theorem dX8_loose_16 : decode cX8_loose 16 = .ok (.ireturn, 1) := by decide +kernel
theorem dX8_ended_0 : decode cX8_ended 0 = .ok (.iload_n 1, 1) := by decide +kernel
theorem dX8_ended_1 : decode cX8_ended 1 = .ok (.iconst 0, 1) := by decide +kernel
theorem dX8_ended_2 : decode cX8_ended 2 = .ok (.bipush 60, 2) := by decide +kernel
theorem dX8_ended_4 : decode cX8_ended 4 = .ok (.invokestatic 47, 3) := by decide +kernel
theorem dX8_ended_7 : decode cX8_ended 7 = .ok (.ifCond .eq 11, 3) := by decide +kernel
theorem dX8_ended_10 : decode cX8_ended 10 = .ok (.aload_n 0, 1) := by decide +kernel
theorem dX8_ended_11 : decode cX8_ended 11 = .ok (.iload_n 1, 1) := by decide +kernel
theorem dX8_ended_12 : decode cX8_ended 12 = .ok (.invokevirtual 195, 3) := by decide +kernel
theorem dX8_ended_15 : decode cX8_ended 15 = .ok (.goto 9, 3) := by decide +kernel
theorem dX8_ended_24 : decode cX8_ended 24 = .ok (.ireturn, 1) := by decide +kernel
theorem dX8_ended_18 : decode cX8_ended 18 = .ok (.aload_n 0, 1) := by decide +kernel
theorem dX8_ended_19 : decode cX8_ended 19 = .ok (.ldc 60, 2) := by decide +kernel
theorem dX8_ended_21 : decode cX8_ended 21 = .ok (.invokevirtual 61, 3) := by decide +kernel
theorem dX8_fee_0 : decode cX8_fee 0 = .ok (.iload_n 1, 1) := by decide +kernel
theorem dX8_fee_1 : decode cX8_fee 1 = .ok (.iconst 0, 1) := by decide +kernel
theorem dX8_fee_2 : decode cX8_fee 2 = .ok (.bipush 60, 2) := by decide +kernel
theorem dX8_fee_4 : decode cX8_fee 4 = .ok (.invokestatic 47, 3) := by decide +kernel
theorem dX8_fee_7 : decode cX8_fee 7 = .ok (.ifCond .ne 10, 3) := by decide +kernel
theorem dX8_fee_17 : decode cX8_fee 17 = .ok (.aload_n 0, 1) := by decide +kernel
theorem dX8_fee_18 : decode cX8_fee 18 = .ok (.aload_n 0, 1) := by decide +kernel
theorem dX8_fee_19 : decode cX8_fee 19 = .ok (.getfield 7, 3) := by decide +kernel
theorem dX8_fee_22 : decode cX8_fee 22 = .ok (.aload_n 0, 1) := by decide +kernel
theorem dX8_fee_23 : decode cX8_fee 23 = .ok (.getfield 16, 3) := by decide +kernel
theorem dX8_fee_26 : decode cX8_fee 26 = .ok (.invokevirtual 175, 3) := by decide +kernel
theorem dX8_fee_29 : decode cX8_fee 29 = .ok (.aload_n 0, 1) := by decide +kernel
theorem dX8_fee_30 : decode cX8_fee 30 = .ok (.iload_n 1, 1) := by decide +kernel
theorem dX8_fee_31 : decode cX8_fee 31 = .ok (.invokevirtual 179, 3) := by decide +kernel
theorem dX8_fee_34 : decode cX8_fee 34 = .ok (.aload_n 0, 1) := by decide +kernel
theorem dX8_fee_35 : decode cX8_fee 35 = .ok (.getfield 7, 3) := by decide +kernel
theorem dX8_fee_38 : decode cX8_fee 38 = .ok (.bipush 10, 2) := by decide +kernel
theorem dX8_fee_40 : decode cX8_fee 40 = .ok (.iaload, 1) := by decide +kernel
theorem dX8_fee_41 : decode cX8_fee 41 = .ok (.aload_n 0, 1) := by decide +kernel
theorem dX8_fee_42 : decode cX8_fee 42 = .ok (.getfield 16, 3) := by decide +kernel
theorem dX8_fee_45 : decode cX8_fee 45 = .ok (.bipush 10, 2) := by decide +kernel
theorem dX8_fee_47 : decode cX8_fee 47 = .ok (.iaload, 1) := by decide +kernel
theorem dX8_fee_48 : decode cX8_fee 48 = .ok (.isub, 1) := by decide +kernel
theorem dX8_fee_49 : decode cX8_fee 49 = .ok (.istore_n 2, 1) := by decide +kernel
theorem dX8_fee_50 : decode cX8_fee 50 = .ok (.aload_n 0, 1) := by decide +kernel
theorem dX8_fee_51 : decode cX8_fee 51 = .ok (.aload_n 0, 1) := by decide +kernel
theorem dX8_fee_52 : decode cX8_fee 52 = .ok (.getfield 16, 3) := by decide +kernel
theorem dX8_fee_55 : decode cX8_fee 55 = .ok (.aload_n 0, 1) := by decide +kernel
theorem dX8_fee_56 : decode cX8_fee 56 = .ok (.getfield 7, 3) := by decide +kernel
theorem dX8_fee_59 : decode cX8_fee 59 = .ok (.invokevirtual 175, 3) := by decide +kernel
theorem dX8_fee_62 : decode cX8_fee 62 = .ok (.iload_n 2, 1) := by decide +kernel
theorem dX8_fee_63 : decode cX8_fee 63 = .ok (.ireturn, 1) := by decide +kernel
theorem dX8_fee_10 : decode cX8_fee 10 = .ok (.aload_n 0, 1) := by decide +kernel
theorem dX8_fee_11 : decode cX8_fee 11 = .ok (.ldc 60, 2) := by decide +kernel
theorem dX8_fee_13 : decode cX8_fee 13 = .ok (.invokevirtual 61, 3) := by decide +kernel
theorem dX8_fee_16 : decode cX8_fee 16 = .ok (.ireturn, 1) := by decide +kernel
theorem dX8_free_0 : decode cX8_free 0 = .ok (.iconst 0, 1) := by decide +kernel
theorem dX8_free_1 : decode cX8_free 1 = .ok (.istore_n 1, 1) := by decide +kernel
theorem dX8_free_2 : decode cX8_free 2 = .ok (.iconst 0, 1) := by decide +kernel
theorem dX8_free_3 : decode cX8_free 3 = .ok (.istore_n 2, 1) := by decide +kernel
theorem dX8_free_4 : decode cX8_free 4 = .ok (.iload_n 2, 1) := by decide +kernel
theorem dX8_free_5 : decode cX8_free 5 = .ok (.aload_n 0, 1) := by decide +kernel
theorem dX8_free_6 : decode cX8_free 6 = .ok (.getfield 7, 3) := by decide +kernel
theorem dX8_free_9 : decode cX8_free 9 = .ok (.iconst 2, 1) := by decide +kernel
theorem dX8_free_10 : decode cX8_free 10 = .ok (.iaload, 1) := by decide +kernel
theorem dX8_free_11 : decode cX8_free 11 = .ok (.if_icmp .ge 35, 3) := by decide +kernel
theorem dX8_free_46 : decode cX8_free 46 = .ok (.iload_n 1, 1) := by decide +kernel
theorem dX8_free_47 : decode cX8_free 47 = .ok (.ireturn, 1) := by decide +kernel
theorem dX8_first_0 : decode cX8_first 0 = .ok (.iload_n 1, 1) := by decide +kernel
theorem dX8_first_1 : decode cX8_first 1 = .ok (.iconst 0, 1) := by decide +kernel
theorem dX8_first_2 : decode cX8_first 2 = .ok (.bipush 60, 2) := by decide +kernel
theorem dX8_first_4 : decode cX8_first 4 = .ok (.invokestatic 47, 3) := by decide +kernel
theorem dX8_first_7 : decode cX8_first 7 = .ok (.ifCond .eq 12, 3) := by decide +kernel
theorem dX8_first_10 : decode cX8_first 10 = .ok (.iload_n 2, 1) := by decide +kernel
theorem dX8_first_11 : decode cX8_first 11 = .ok (.iconst 0, 1) := by decide +kernel
theorem dX8_first_12 : decode cX8_first 12 = .ok (.iconst 1, 1) := by decide +kernel
theorem dX8_first_13 : decode cX8_first 13 = .ok (.invokestatic 47, 3) := by decide +kernel
theorem dX8_first_16 : decode cX8_first 16 = .ok (.ifCond .ne 10, 3) := by decide +kernel
theorem dX8_first_26 : decode cX8_first 26 = .ok (.aload_n 0, 1) := by decide +kernel
theorem dX8_first_27 : decode cX8_first 27 = .ok (.getfield 7, 3) := by decide +kernel
theorem dX8_first_30 : decode cX8_first 30 = .ok (.iconst 2, 1) := by decide +kernel
theorem dX8_first_31 : decode cX8_first 31 = .ok (.iaload, 1) := by decide +kernel
theorem dX8_first_32 : decode cX8_first 32 = .ok (.ifCond .ne 10, 3) := by decide +kernel
theorem dX8_first_35 : decode cX8_first 35 = .ok (.aload_n 0, 1) := by decide +kernel
theorem dX8_first_36 : decode cX8_first 36 = .ok (.ldc 194, 2) := by decide +kernel
theorem dX8_first_38 : decode cX8_first 38 = .ok (.invokevirtual 61, 3) := by decide +kernel
theorem dX8_first_41 : decode cX8_first 41 = .ok (.ireturn, 1) := by decide +kernel
theorem dX8_first_19 : decode cX8_first 19 = .ok (.aload_n 0, 1) := by decide +kernel
theorem dX8_first_20 : decode cX8_first 20 = .ok (.ldc 60, 2) := by decide +kernel
theorem dX8_first_22 : decode cX8_first 22 = .ok (.invokevirtual 61, 3) := by decide +kernel
theorem dX8_first_25 : decode cX8_first 25 = .ok (.ireturn, 1) := by decide +kernel
theorem dX8_off_0 : decode cX8_off 0 = .ok (.iload_n 1, 1) := by decide +kernel
theorem dX8_off_1 : decode cX8_off 1 = .ok (.iconst 0, 1) := by decide +kernel
theorem dX8_off_2 : decode cX8_off 2 = .ok (.bipush 60, 2) := by decide +kernel
theorem dX8_off_4 : decode cX8_off 4 = .ok (.invokestatic 47, 3) := by decide +kernel
theorem dX8_off_7 : decode cX8_off 7 = .ok (.ifCond .ne 10, 3) := by decide +kernel
theorem dX8_off_17 : decode cX8_off 17 = .ok (.iload_n 1, 1) := by decide +kernel
theorem dX8_off_18 : decode cX8_off 18 = .ok (.ifCond .ne 5, 3) := by decide +kernel
theorem dX8_off_21 : decode cX8_off 21 = .ok (.iconst 0, 1) := by decide +kernel
theorem dX8_off_22 : decode cX8_off 22 = .ok (.ireturn, 1) := by decide +kernel
theorem dX8_off_23 : decode cX8_off 23 = .ok (.aload_n 0, 1) := by decide +kernel
theorem dX8_off_24 : decode cX8_off 24 = .ok (.aload_n 0, 1) := by decide +kernel
theorem dX8_off_25 : decode cX8_off 25 = .ok (.getfield 7, 3) := by decide +kernel
theorem dX8_off_28 : decode cX8_off 28 = .ok (.aload_n 0, 1) := by decide +kernel
theorem dX8_off_29 : decode cX8_off 29 = .ok (.getfield 16, 3) := by decide +kernel
theorem dX8_off_32 : decode cX8_off 32 = .ok (.invokevirtual 175, 3) := by decide +kernel
theorem dX8_off_35 : decode cX8_off 35 = .ok (.aload_n 0, 1) := by decide +kernel
theorem dX8_off_36 : decode cX8_off 36 = .ok (.iconst 0, 1) := by decide +kernel
theorem dX8_off_37 : decode cX8_off 37 = .ok (.invokevirtual 171, 3) := by decide +kernel
theorem dX8_off_40 : decode cX8_off 40 = .ok (.aload_n 0, 1) := by decide +kernel
theorem dX8_off_41 : decode cX8_off 41 = .ok (.iload_n 1, 1) := by decide +kernel
theorem dX8_off_42 : decode cX8_off 42 = .ok (.iconst 1, 1) := by decide +kernel
theorem dX8_off_43 : decode cX8_off 43 = .ok (.isub, 1) := by decide +kernel
theorem dX8_off_44 : decode cX8_off 44 = .ok (.invokevirtual 179, 3) := by decide +kernel
theorem dX8_off_47 : decode cX8_off 47 = .ok (.aload_n 0, 1) := by decide +kernel
theorem dX8_off_48 : decode cX8_off 48 = .ok (.getfield 7, 3) := by decide +kernel
theorem dX8_off_51 : decode cX8_off 51 = .ok (.bipush 9, 2) := by decide +kernel
theorem dX8_off_53 : decode cX8_off 53 = .ok (.iaload, 1) := by decide +kernel
theorem dX8_off_54 : decode cX8_off 54 = .ok (.istore_n 2, 1) := by decide +kernel
theorem dX8_off_55 : decode cX8_off 55 = .ok (.aload_n 0, 1) := by decide +kernel
theorem dX8_off_56 : decode cX8_off 56 = .ok (.aload_n 0, 1) := by decide +kernel
theorem dX8_off_57 : decode cX8_off 57 = .ok (.getfield 16, 3) := by decide +kernel
theorem dX8_off_60 : decode cX8_off 60 = .ok (.aload_n 0, 1) := by decide +kernel
theorem dX8_off_61 : decode cX8_off 61 = .ok (.getfield 7, 3) := by decide +kernel
theorem dX8_off_64 : decode cX8_off 64 = .ok (.invokevirtual 175, 3) := by decide +kernel
theorem dX8_off_67 : decode cX8_off 67 = .ok (.aload_n 0, 1) := by decide +kernel
theorem dX8_off_68 : decode cX8_off 68 = .ok (.iload_n 1, 1) := by decide +kernel
theorem dX8_off_69 : decode cX8_off 69 = .ok (.invokevirtual 179, 3) := by decide +kernel
theorem dX8_off_72 : decode cX8_off 72 = .ok (.iload_n 2, 1) := by decide +kernel
theorem dX8_off_73 : decode cX8_off 73 = .ok (.aload_n 0, 1) := by decide +kernel
theorem dX8_off_74 : decode cX8_off 74 = .ok (.getfield 7, 3) := by decide +kernel
theorem dX8_off_77 : decode cX8_off 77 = .ok (.bipush 9, 2) := by decide +kernel
theorem dX8_off_79 : decode cX8_off 79 = .ok (.iaload, 1) := by decide +kernel
theorem dX8_off_80 : decode cX8_off 80 = .ok (.isub, 1) := by decide +kernel
theorem dX8_off_81 : decode cX8_off 81 = .ok (.istore_n 2, 1) := by decide +kernel
theorem dX8_off_82 : decode cX8_off 82 = .ok (.aload_n 0, 1) := by decide +kernel
theorem dX8_off_83 : decode cX8_off 83 = .ok (.aload_n 0, 1) := by decide +kernel
theorem dX8_off_84 : decode cX8_off 84 = .ok (.getfield 16, 3) := by decide +kernel
theorem dX8_off_87 : decode cX8_off 87 = .ok (.aload_n 0, 1) := by decide +kernel
theorem dX8_off_88 : decode cX8_off 88 = .ok (.getfield 7, 3) := by decide +kernel
theorem dX8_off_91 : decode cX8_off 91 = .ok (.invokevirtual 175, 3) := by decide +kernel
theorem dX8_off_94 : decode cX8_off 94 = .ok (.iload_n 2, 1) := by decide +kernel
theorem dX8_off_95 : decode cX8_off 95 = .ok (.ireturn, 1) := by decide +kernel
theorem dX8_off_10 : decode cX8_off 10 = .ok (.aload_n 0, 1) := by decide +kernel
theorem dX8_off_11 : decode cX8_off 11 = .ok (.ldc 60, 2) := by decide +kernel
theorem dX8_off_13 : decode cX8_off 13 = .ok (.invokevirtual 61, 3) := by decide +kernel
theorem dX8_off_16 : decode cX8_off 16 = .ok (.ireturn, 1) := by decide +kernel
set_option maxRecDepth 100000 in
set_option maxHeartbeats 4000000 in
theorem c0_X8_ofQuarrel (l : Launch) (D : va_G) (y : wY) (ad : Nat → Nat) (M : Mem) (hz : Z1 M) (q what : Int32) : MI l D y ad yX8_ofQuarrel (Cond.code yX8_ofQuarrel cX8_ofQuarrel 3 (some .int)) 6 M [.ref (ad 79), .int q, .int what] (fun r _ => sp_ofQuarrel q what = r) := by
  refine MI_of (by decide) (Nat.le_of_ble_eq_true rfl) ?_
  intro p e s m args below meth c X hr hlocks
  refine j_lv (lv1 := [(0, .ref (ad 79)), (1, .int q), (2, .int what)]) [0, 1, 2] rfl ?_
  refine j_aload_n X 0 rfl rfl dX8_ofQuarrel_0 ?_
  refine j_iload_n X 1 rfl rfl dX8_ofQuarrel_1 ?_
  refine j_callVI X (nn := 1) (As := [.int q]) (st := []) (ci := 8) (by decide) (wE_8 _ rfl) rfl aw_231 aw_232 (c_X8_isQuarrel0 l D y ad M hz.2.2.1 q) aw_230 aw_233 aw_5 (by decide +kernel) ⟨by decide, by decide⟩ rfl (Nat.le_of_ble_eq_true rfl) ⟨by decide, by decide⟩ dX8_ofQuarrel_2 ?_
  rintro r_ M1_ ⟨rfl, rfl⟩
  refine j_if_eq X 18 (by decide) dX8_ofQuarrel_5 (fun c_1 => ?_) (fun c_1 => False.elim (by revert c_1; decide))
  refine j_aload_n X 0 rfl rfl dX8_ofQuarrel_18 ?_
  refine j_ldc X (v := (-1000000001)) aw_132 dX8_ofQuarrel_19 ?_
  refine j_callVI X (nn := 1) (As := [.int (-1000000001)]) (st := []) (ci := 8) (by decide) (wE_8 _ rfl) rfl aw_144 aw_145 (c_X8_errs l D y ad M (-1000000001) 1 (by decide) (by decide)) aw_143 aw_146 aw_5 (by decide +kernel) ⟨by decide, by decide⟩ rfl (Nat.le_of_ble_eq_true rfl) ⟨by decide, by decide⟩ dX8_ofQuarrel_21 ?_
  rintro r_ M1_ ⟨rfl, rfl⟩
  exact j_iret X hr hlocks dX8_ofQuarrel_24 (by unfold sp_ofQuarrel; (repeat' split) <;> first | rfl | omega | (exfalso; omega))
set_option maxRecDepth 100000 in
set_option maxHeartbeats 4000000 in
theorem c0_X8_become (l : Launch) (D : va_G) (y : wY) (ad : Nat → Nat) (M : Mem) (hz : Z1 M) (q km : Int32) : MI l D y ad yX8_become (Cond.code yX8_become cX8_become 3 (some .int)) 6 M [.ref (ad 79), .int q, .int km] (fun r _ => sp_become q km = r) := by
  refine MI_of (by decide) (Nat.le_of_ble_eq_true rfl) ?_
  intro p e s m args below meth c X hr hlocks
  refine j_lv (lv1 := [(0, .ref (ad 79)), (1, .int q), (2, .int km)]) [0, 1, 2] rfl ?_
  refine j_aload_n X 0 rfl rfl dX8_become_0 ?_
  refine j_iload_n X 1 rfl rfl dX8_become_1 ?_
  refine j_callVI X (nn := 1) (As := [.int q]) (st := []) (ci := 8) (by decide) (wE_8 _ rfl) rfl aw_231 aw_232 (c_X8_isQuarrel0 l D y ad M hz.2.2.1 q) aw_230 aw_233 aw_5 (by decide +kernel) ⟨by decide, by decide⟩ rfl (Nat.le_of_ble_eq_true rfl) ⟨by decide, by decide⟩ dX8_become_2 ?_
  rintro r_ M1_ ⟨rfl, rfl⟩
  refine j_if_eq X 18 (by decide) dX8_become_5 (fun c_1 => ?_) (fun c_1 => False.elim (by revert c_1; decide))
  refine j_aload_n X 0 rfl rfl dX8_become_18 ?_
  refine j_ldc X (v := (-1000000001)) aw_132 dX8_become_19 ?_
  refine j_callVI X (nn := 1) (As := [.int (-1000000001)]) (st := []) (ci := 8) (by decide) (wE_8 _ rfl) rfl aw_144 aw_145 (c_X8_errs l D y ad M (-1000000001) 1 (by decide) (by decide)) aw_143 aw_146 aw_5 (by decide +kernel) ⟨by decide, by decide⟩ rfl (Nat.le_of_ble_eq_true rfl) ⟨by decide, by decide⟩ dX8_become_21 ?_
  rintro r_ M1_ ⟨rfl, rfl⟩
  exact j_iret X hr hlocks dX8_become_24 (by unfold sp_become; (repeat' split) <;> first | rfl | omega | (exfalso; omega))
set_option maxRecDepth 100000 in
set_option maxHeartbeats 4000000 in
theorem c0_X8_as (l : Launch) (D : va_G) (y : wY) (ad : Nat → Nat) (M : Mem) (hz : Z1 M) (q kind : Int32) : MI l D y ad yX8_as (Cond.code yX8_as cX8_as 4 (some .int)) 6 M [.ref (ad 79), .int q, .int kind] (fun r _ => sp_as q kind = r) := by
  refine MI_of (by decide) (Nat.le_of_ble_eq_true rfl) ?_
  intro p e s m args below meth c X hr hlocks
  refine j_lv (lv1 := [(0, .ref (ad 79)), (1, .int q), (2, .int kind)]) [0, 1, 2] rfl ?_
  refine j_aload_n X 0 rfl rfl dX8_as_0 ?_
  refine j_iload_n X 1 rfl rfl dX8_as_1 ?_
  refine j_callVI X (nn := 1) (As := [.int q]) (st := []) (ci := 8) (by decide) (wE_8 _ rfl) rfl aw_231 aw_232 (c_X8_isQuarrel0 l D y ad M hz.2.2.1 q) aw_230 aw_233 aw_5 (by decide +kernel) ⟨by decide, by decide⟩ rfl (Nat.le_of_ble_eq_true rfl) ⟨by decide, by decide⟩ dX8_as_2 ?_
  rintro r_ M1_ ⟨rfl, rfl⟩
  refine j_if_eq X 18 (by decide) dX8_as_5 (fun c_1 => ?_) (fun c_1 => False.elim (by revert c_1; decide))
  refine j_aload_n X 0 rfl rfl dX8_as_18 ?_
  refine j_ldc X (v := (-1000000001)) aw_132 dX8_as_19 ?_
  refine j_callVI X (nn := 1) (As := [.int (-1000000001)]) (st := []) (ci := 8) (by decide) (wE_8 _ rfl) rfl aw_144 aw_145 (c_X8_errs l D y ad M (-1000000001) 1 (by decide) (by decide)) aw_143 aw_146 aw_5 (by decide +kernel) ⟨by decide, by decide⟩ rfl (Nat.le_of_ble_eq_true rfl) ⟨by decide, by decide⟩ dX8_as_21 ?_
  rintro r_ M1_ ⟨rfl, rfl⟩
  exact j_iret X hr hlocks dX8_as_24 (by unfold sp_as; (repeat' split) <;> first | rfl | omega | (exfalso; omega))
set_option maxRecDepth 100000 in
set_option maxHeartbeats 4000000 in
theorem c0_X8_when (l : Launch) (D : va_G) (y : wY) (ad : Nat → Nat) (M : Mem) (hz : Z1 M) (q : Int32) : MI l D y ad yX8_when (Cond.code yX8_when cX8_when 3 (some .int)) 6 M [.ref (ad 79), .int q] (fun r _ => sp_when q = r) := by
  refine MI_of (by decide) (Nat.le_of_ble_eq_true rfl) ?_
  intro p e s m args below meth c X hr hlocks
  refine j_lv (lv1 := [(0, .ref (ad 79)), (1, .int q)]) [0, 1] rfl ?_
  refine j_aload_n X 0 rfl rfl dX8_when_0 ?_
  refine j_iload_n X 1 rfl rfl dX8_when_1 ?_
  refine j_callVI X (nn := 1) (As := [.int q]) (st := []) (ci := 8) (by decide) (wE_8 _ rfl) rfl aw_231 aw_232 (c_X8_isQuarrel0 l D y ad M hz.2.2.1 q) aw_230 aw_233 aw_5 (by decide +kernel) ⟨by decide, by decide⟩ rfl (Nat.le_of_ble_eq_true rfl) ⟨by decide, by decide⟩ dX8_when_2 ?_
  rintro r_ M1_ ⟨rfl, rfl⟩
  refine j_if_ne X 15 (by decide) dX8_when_5 (fun c_1 => False.elim (by revert c_1; decide)) (fun c_1 => ?_)
  refine j_aload_n X 0 rfl rfl dX8_when_8 ?_
  refine j_ldc X (v := (-1000000001)) aw_132 dX8_when_9 ?_
  refine j_callVI X (nn := 1) (As := [.int (-1000000001)]) (st := []) (ci := 8) (by decide) (wE_8 _ rfl) rfl aw_144 aw_145 (c_X8_errs l D y ad M (-1000000001) 1 (by decide) (by decide)) aw_143 aw_146 aw_5 (by decide +kernel) ⟨by decide, by decide⟩ rfl (Nat.le_of_ble_eq_true rfl) ⟨by decide, by decide⟩ dX8_when_11 ?_
  rintro r_ M1_ ⟨rfl, rfl⟩
  exact j_iret X hr hlocks dX8_when_14 (by unfold sp_when; (repeat' split) <;> first | rfl | omega | (exfalso; omega))
set_option maxRecDepth 100000 in
set_option maxHeartbeats 4000000 in
theorem c0_X8_chain (l : Launch) (D : va_G) (y : wY) (ad : Nat → Nat) (M : Mem) (hz : Z1 M) (q : Int32) : MI l D y ad yX8_chain (Cond.code yX8_chain cX8_chain 6 (some .int)) 6 M [.ref (ad 79), .int q] (fun r _ => sp_chain q = r) := by
  refine MI_of (by decide) (Nat.le_of_ble_eq_true rfl) ?_
  intro p e s m args below meth c X hr hlocks
  refine j_lv (lv1 := [(0, .ref (ad 79)), (1, .int q)]) [0, 1] rfl ?_
  refine j_aload_n X 0 rfl rfl dX8_chain_0 ?_
  refine j_iload_n X 1 rfl rfl dX8_chain_1 ?_
  refine j_callVI X (nn := 1) (As := [.int q]) (st := []) (ci := 8) (by decide) (wE_8 _ rfl) rfl aw_231 aw_232 (c_X8_isQuarrel0 l D y ad M hz.2.2.1 q) aw_230 aw_233 aw_5 (by decide +kernel) ⟨by decide, by decide⟩ rfl (Nat.le_of_ble_eq_true rfl) ⟨by decide, by decide⟩ dX8_chain_2 ?_
  rintro r_ M1_ ⟨rfl, rfl⟩
  refine j_if_ne X 15 (by decide) dX8_chain_5 (fun c_1 => False.elim (by revert c_1; decide)) (fun c_1 => ?_)
  refine j_aload_n X 0 rfl rfl dX8_chain_8 ?_
  refine j_ldc X (v := (-1000000001)) aw_132 dX8_chain_9 ?_
  refine j_callVI X (nn := 1) (As := [.int (-1000000001)]) (st := []) (ci := 8) (by decide) (wE_8 _ rfl) rfl aw_144 aw_145 (c_X8_errs l D y ad M (-1000000001) 1 (by decide) (by decide)) aw_143 aw_146 aw_5 (by decide +kernel) ⟨by decide, by decide⟩ rfl (Nat.le_of_ble_eq_true rfl) ⟨by decide, by decide⟩ dX8_chain_11 ?_
  rintro r_ M1_ ⟨rfl, rfl⟩
  exact j_iret X hr hlocks dX8_chain_14 (by unfold sp_chain; (repeat' split) <;> first | rfl | omega | (exfalso; omega))
set_option maxRecDepth 100000 in
set_option maxHeartbeats 4000000 in
theorem c0_X8_hand (l : Launch) (D : va_G) (y : wY) (ad : Nat → Nat) (M : Mem) (hz : Z1 M) (q n : Int32) : MI l D y ad yX8_hand (Cond.code yX8_hand cX8_hand 6 (some .int)) 6 M [.ref (ad 79), .int q, .int n] (fun r _ => sp_hand q n = r) := by
  refine MI_of (by decide) (Nat.le_of_ble_eq_true rfl) ?_
  intro p e s m args below meth c X hr hlocks
  refine j_lv (lv1 := [(0, .ref (ad 79)), (1, .int q), (2, .int n)]) [0, 1, 2] rfl ?_
  refine j_aload_n X 0 rfl rfl dX8_hand_0 ?_
  refine j_iload_n X 1 rfl rfl dX8_hand_1 ?_
  refine j_callVI X (nn := 1) (As := [.int q]) (st := []) (ci := 8) (by decide) (wE_8 _ rfl) rfl aw_231 aw_232 (c_X8_isQuarrel0 l D y ad M hz.2.2.1 q) aw_230 aw_233 aw_5 (by decide +kernel) ⟨by decide, by decide⟩ rfl (Nat.le_of_ble_eq_true rfl) ⟨by decide, by decide⟩ dX8_hand_2 ?_
  rintro r_ M1_ ⟨rfl, rfl⟩
  refine j_if_eq X 18 (by decide) dX8_hand_5 (fun c_1 => ?_) (fun c_1 => False.elim (by revert c_1; decide))
  refine j_aload_n X 0 rfl rfl dX8_hand_18 ?_
  refine j_ldc X (v := (-1000000001)) aw_132 dX8_hand_19 ?_
  refine j_callVI X (nn := 1) (As := [.int (-1000000001)]) (st := []) (ci := 8) (by decide) (wE_8 _ rfl) rfl aw_144 aw_145 (c_X8_errs l D y ad M (-1000000001) 1 (by decide) (by decide)) aw_143 aw_146 aw_5 (by decide +kernel) ⟨by decide, by decide⟩ rfl (Nat.le_of_ble_eq_true rfl) ⟨by decide, by decide⟩ dX8_hand_21 ?_
  rintro r_ M1_ ⟨rfl, rfl⟩
  exact j_iret X hr hlocks dX8_hand_24 (by unfold sp_hand; (repeat' split) <;> first | rfl | omega | (exfalso; omega))
set_option maxRecDepth 100000 in
set_option maxHeartbeats 4000000 in
theorem c0_X8_sharp (l : Launch) (D : va_G) (y : wY) (ad : Nat → Nat) (M : Mem) (hz : Z1 M) (q n : Int32) : MI l D y ad yX8_sharp (Cond.code yX8_sharp cX8_sharp 6 (some .int)) 6 M [.ref (ad 79), .int q, .int n] (fun r _ => sp_sharp q n = r) := by
  refine MI_of (by decide) (Nat.le_of_ble_eq_true rfl) ?_
  intro p e s m args below meth c X hr hlocks
  refine j_lv (lv1 := [(0, .ref (ad 79)), (1, .int q), (2, .int n)]) [0, 1, 2] rfl ?_
  refine j_aload_n X 0 rfl rfl dX8_sharp_0 ?_
  refine j_iload_n X 1 rfl rfl dX8_sharp_1 ?_
  refine j_callVI X (nn := 1) (As := [.int q]) (st := []) (ci := 8) (by decide) (wE_8 _ rfl) rfl aw_231 aw_232 (c_X8_isQuarrel0 l D y ad M hz.2.2.1 q) aw_230 aw_233 aw_5 (by decide +kernel) ⟨by decide, by decide⟩ rfl (Nat.le_of_ble_eq_true rfl) ⟨by decide, by decide⟩ dX8_sharp_2 ?_
  rintro r_ M1_ ⟨rfl, rfl⟩
  refine j_if_eq X 18 (by decide) dX8_sharp_5 (fun c_1 => ?_) (fun c_1 => False.elim (by revert c_1; decide))
  refine j_aload_n X 0 rfl rfl dX8_sharp_18 ?_
  refine j_ldc X (v := (-1000000001)) aw_132 dX8_sharp_19 ?_
  refine j_callVI X (nn := 1) (As := [.int (-1000000001)]) (st := []) (ci := 8) (by decide) (wE_8 _ rfl) rfl aw_144 aw_145 (c_X8_errs l D y ad M (-1000000001) 1 (by decide) (by decide)) aw_143 aw_146 aw_5 (by decide +kernel) ⟨by decide, by decide⟩ rfl (Nat.le_of_ble_eq_true rfl) ⟨by decide, by decide⟩ dX8_sharp_21 ?_
  rintro r_ M1_ ⟨rfl, rfl⟩
  exact j_iret X hr hlocks dX8_sharp_24 (by unfold sp_sharp; (repeat' split) <;> first | rfl | omega | (exfalso; omega))
set_option maxRecDepth 100000 in
set_option maxHeartbeats 4000000 in
theorem c0_X8_odds (l : Launch) (D : va_G) (y : wY) (ad : Nat → Nat) (M : Mem) (hz : Z1 M) (q n part : Int32) : MI l D y ad yX8_odds (Cond.code yX8_odds cX8_odds 7 (some .int)) 6 M [.ref (ad 79), .int q, .int n, .int part] (fun r _ => sp_odds q n part = r) := by
  refine MI_of (by decide) (Nat.le_of_ble_eq_true rfl) ?_
  intro p e s m args below meth c X hr hlocks
  refine j_lv (lv1 := [(0, .ref (ad 79)), (1, .int q), (2, .int n), (3, .int part)]) [0, 1, 2, 3] rfl ?_
  refine j_aload_n X 0 rfl rfl dX8_odds_0 ?_
  refine j_iload_n X 1 rfl rfl dX8_odds_1 ?_
  refine j_callVI X (nn := 1) (As := [.int q]) (st := []) (ci := 8) (by decide) (wE_8 _ rfl) rfl aw_231 aw_232 (c_X8_isQuarrel0 l D y ad M hz.2.2.1 q) aw_230 aw_233 aw_5 (by decide +kernel) ⟨by decide, by decide⟩ rfl (Nat.le_of_ble_eq_true rfl) ⟨by decide, by decide⟩ dX8_odds_2 ?_
  rintro r_ M1_ ⟨rfl, rfl⟩
  refine j_if_eq X 27 (by decide) dX8_odds_5 (fun c_1 => ?_) (fun c_1 => False.elim (by revert c_1; decide))
  refine j_aload_n X 0 rfl rfl dX8_odds_27 ?_
  refine j_ldc X (v := (-1000000001)) aw_132 dX8_odds_28 ?_
  refine j_callVI X (nn := 1) (As := [.int (-1000000001)]) (st := []) (ci := 8) (by decide) (wE_8 _ rfl) rfl aw_144 aw_145 (c_X8_errs l D y ad M (-1000000001) 1 (by decide) (by decide)) aw_143 aw_146 aw_5 (by decide +kernel) ⟨by decide, by decide⟩ rfl (Nat.le_of_ble_eq_true rfl) ⟨by decide, by decide⟩ dX8_odds_30 ?_
  rintro r_ M1_ ⟨rfl, rfl⟩
  exact j_iret X hr hlocks dX8_odds_33 (by unfold sp_odds; (repeat' split) <;> first | rfl | omega | (exfalso; omega))
set_option maxRecDepth 100000 in
set_option maxHeartbeats 4000000 in
theorem c0_X8_voice (l : Launch) (D : va_G) (y : wY) (ad : Nat → Nat) (M : Mem) (hz : Z1 M) (q act x : Int32) : MI l D y ad yX8_voice (Cond.code yX8_voice cX8_voice 4 (some .int)) 6 M [.ref (ad 79), .int q, .int act, .int x] (fun r _ => sp_voice q act x = r) := by
  refine MI_of (by decide) (Nat.le_of_ble_eq_true rfl) ?_
  intro p e s m args below meth c X hr hlocks
  refine j_lv (lv1 := [(0, .ref (ad 79)), (1, .int q), (2, .int act), (3, .int x)]) [0, 1, 2, 3] rfl ?_
  refine j_aload_n X 0 rfl rfl dX8_voice_0 ?_
  refine j_iload_n X 1 rfl rfl dX8_voice_1 ?_
  refine j_callVI X (nn := 1) (As := [.int q]) (st := []) (ci := 8) (by decide) (wE_8 _ rfl) rfl aw_231 aw_232 (c_X8_isQuarrel0 l D y ad M hz.2.2.1 q) aw_230 aw_233 aw_5 (by decide +kernel) ⟨by decide, by decide⟩ rfl (Nat.le_of_ble_eq_true rfl) ⟨by decide, by decide⟩ dX8_voice_2 ?_
  rintro r_ M1_ ⟨rfl, rfl⟩
  refine j_if_eq X 17 (by decide) dX8_voice_5 (fun c_1 => ?_) (fun c_1 => False.elim (by revert c_1; decide))
  refine j_aload_n X 0 rfl rfl dX8_voice_17 ?_
  refine j_ldc X (v := (-1000000001)) aw_132 dX8_voice_18 ?_
  refine j_callVI X (nn := 1) (As := [.int (-1000000001)]) (st := []) (ci := 8) (by decide) (wE_8 _ rfl) rfl aw_144 aw_145 (c_X8_errs l D y ad M (-1000000001) 1 (by decide) (by decide)) aw_143 aw_146 aw_5 (by decide +kernel) ⟨by decide, by decide⟩ rfl (Nat.le_of_ble_eq_true rfl) ⟨by decide, by decide⟩ dX8_voice_20 ?_
  rintro r_ M1_ ⟨rfl, rfl⟩
  exact j_iret X hr hlocks dX8_voice_23 (by unfold sp_voice; (repeat' split) <;> first | rfl | omega | (exfalso; omega))
set_option maxRecDepth 100000 in
set_option maxHeartbeats 4000000 in
theorem c0_X8_then (l : Launch) (D : va_G) (y : wY) (ad : Nat → Nat) (M : Mem) (hz : Z1 M) (n q what : Int32) : MI l D y ad yX8_then (Cond.code yX8_then cX8_then 5 (some .int)) 6 M [.ref (ad 79), .int n, .int q, .int what] (fun r _ => sp_then n q what = r) := by
  refine MI_of (by decide) (Nat.le_of_ble_eq_true rfl) ?_
  intro p e s m args below meth c X hr hlocks
  refine j_lv (lv1 := [(0, .ref (ad 79)), (1, .int n), (2, .int q), (3, .int what)]) [0, 1, 2, 3] rfl ?_
  refine j_iload_n X 1 rfl rfl dX8_then_0 ?_
  refine j_iconst X (v := 0) (by decide) dX8_then_1 ?_
  refine j_bipush X (v := 60) (by decide) dX8_then_2 ?_
  refine j_callSI X (nn := 3) (As := [.int n, .int 0, .int 60]) (st := []) aw_134 (c_X8_in l D y ad M n 0 60 0 60 (by decide) (by decide)) aw_133 aw_135 aw_5 (by decide +kernel) ⟨by decide, by decide⟩ rfl (Nat.le_of_ble_eq_true rfl) ⟨by decide, by decide⟩ dX8_then_4 ?_
  rintro r_ M1_ (⟨rfl, rfl, h_1⟩ | ⟨rfl, rfl, h_1⟩)
  · refine j_if_eq X 27 (by decide) dX8_then_7 (fun c_2 => False.elim (by revert c_2; decide)) (fun c_2 => ?_)
    refine j_aload_n X 0 rfl rfl dX8_then_10 ?_
    refine j_iload_n X 2 rfl rfl dX8_then_11 ?_
    refine j_callVI X (nn := 1) (As := [.int q]) (st := []) (ci := 8) (by decide) (wE_8 _ rfl) rfl aw_231 aw_232 (c_X8_isQuarrel0 l D y ad M hz.2.2.1 q) aw_230 aw_233 aw_5 (by decide +kernel) ⟨by decide, by decide⟩ rfl (Nat.le_of_ble_eq_true rfl) ⟨by decide, by decide⟩ dX8_then_12 ?_
    rintro r_ M1_ ⟨rfl, rfl⟩
    refine j_if_eq X 27 (by decide) dX8_then_15 (fun c_3 => ?_) (fun c_3 => False.elim (by revert c_3; decide))
    refine j_aload_n X 0 rfl rfl dX8_then_27 ?_
    refine j_ldc X (v := (-1000000001)) aw_132 dX8_then_28 ?_
    refine j_callVI X (nn := 1) (As := [.int (-1000000001)]) (st := []) (ci := 8) (by decide) (wE_8 _ rfl) rfl aw_144 aw_145 (c_X8_errs l D y ad M (-1000000001) 1 (by decide) (by decide)) aw_143 aw_146 aw_5 (by decide +kernel) ⟨by decide, by decide⟩ rfl (Nat.le_of_ble_eq_true rfl) ⟨by decide, by decide⟩ dX8_then_30 ?_
    rintro r_ M1_ ⟨rfl, rfl⟩
    exact j_iret X hr hlocks dX8_then_33 (by unfold sp_then; (repeat' split) <;> first | rfl | omega | (exfalso; omega))
  · refine j_if_eq X 27 (by decide) dX8_then_7 (fun c_4 => ?_) (fun c_4 => False.elim (by revert c_4; decide))
    refine j_aload_n X 0 rfl rfl dX8_then_27 ?_
    refine j_ldc X (v := (-1000000001)) aw_132 dX8_then_28 ?_
    refine j_callVI X (nn := 1) (As := [.int (-1000000001)]) (st := []) (ci := 8) (by decide) (wE_8 _ rfl) rfl aw_144 aw_145 (c_X8_errs l D y ad M (-1000000001) 1 (by decide) (by decide)) aw_143 aw_146 aw_5 (by decide +kernel) ⟨by decide, by decide⟩ rfl (Nat.le_of_ble_eq_true rfl) ⟨by decide, by decide⟩ dX8_then_30 ?_
    rintro r_ M1_ ⟨rfl, rfl⟩
    exact j_iret X hr hlocks dX8_then_33 (by unfold sp_then; (repeat' split) <;> first | rfl | omega | (exfalso; omega))
set_option maxRecDepth 100000 in
set_option maxHeartbeats 4000000 in
theorem c0_X8_change (l : Launch) (D : va_G) (y : wY) (ad : Nat → Nat) (M : Mem) (hz : Z1 M) (q what v : Int32) : MI l D y ad yX8_change (Cond.code yX8_change cX8_change 5 (some .int)) 6 M [.ref (ad 79), .int q, .int what, .int v] (fun r _ => sp_change q what v = r) := by
  refine MI_of (by decide) (Nat.le_of_ble_eq_true rfl) ?_
  intro p e s m args below meth c X hr hlocks
  refine j_lv (lv1 := [(0, .ref (ad 79)), (1, .int q), (2, .int what), (3, .int v)]) [0, 1, 2, 3] rfl ?_
  refine j_iload_n X 2 rfl rfl dX8_change_0 ?_
  refine j_if_ne X 11 (by decide) dX8_change_1 (fun c_1 => ?_) (fun c_1 => ?_)
  · have qc_1 := ti_ne (n := 0) (by decide) c_1
    refine j_iload_n X 2 rfl rfl dX8_change_11 ?_
    refine j_iconst X (v := 1) (by decide) dX8_change_12 ?_
    refine j_icmp_ne X 26 (by decide) dX8_change_13 (fun c_2 => ?_) (fun c_2 => ?_)
    · have qc_2 := ti_ne (n := 1) (by decide) c_2
      refine j_iload_n X 2 rfl rfl dX8_change_26 ?_
      refine j_iconst X (v := 2) (by decide) dX8_change_27 ?_
      refine j_icmp_ne X 40 (by decide) dX8_change_28 (fun c_3 => ?_) (fun c_3 => ?_)
      · have qc_3 := ti_ne (n := 2) (by decide) c_3
        refine j_iload_n X 2 rfl rfl dX8_change_40 ?_
        refine j_iconst X (v := 3) (by decide) dX8_change_41 ?_
        refine j_icmp_ne X 60 (by decide) dX8_change_42 (fun c_4 => ?_) (fun c_4 => ?_)
        · have qc_4 := ti_ne (n := 3) (by decide) c_4
          refine j_iconst X (v := 0) (by decide) dX8_change_60 ?_
          refine j_istore X [(4, .int 0), (0, .ref (ad 79)), (1, .int q), (2, .int what), (3, .int v)] (by decide) rfl dX8_change_61 ?_
          refine j_aload_n X 1 rfl rfl dX8_change_63 ?_
          refine j_iload_n X 2 rfl rfl dX8_change_64 ?_
          refine j_callVI X (nn := 1) (As := [.int q]) (st := []) (ci := 8) (by decide) (wE_8 _ rfl) rfl aw_231 aw_232 (c_X8_isQuarrel0 l D y ad M hz.2.2.1 q) aw_230 aw_233 aw_5 (by decide +kernel) ⟨by decide, by decide⟩ rfl (Nat.le_of_ble_eq_true rfl) ⟨by decide, by decide⟩ dX8_change_65 ?_
          rintro r_ M1_ ⟨rfl, rfl⟩
          refine j_if_eq X 76 (by decide) dX8_change_68 (fun c_5 => ?_) (fun c_5 => False.elim (by revert c_5; decide))
          refine j_aload_n X 1 rfl rfl dX8_change_76 ?_
          refine j_ldc X (v := (-1000000001)) aw_132 dX8_change_77 ?_
          refine j_callVI X (nn := 1) (As := [.int (-1000000001)]) (st := []) (ci := 8) (by decide) (wE_8 _ rfl) rfl aw_144 aw_145 (c_X8_errs l D y ad M (-1000000001) 1 (by decide) (by decide)) aw_143 aw_146 aw_5 (by decide +kernel) ⟨by decide, by decide⟩ rfl (Nat.le_of_ble_eq_true rfl) ⟨by decide, by decide⟩ dX8_change_79 ?_
          rintro r_ M1_ ⟨rfl, rfl⟩
          exact j_iret X hr hlocks dX8_change_82 (by unfold sp_change; (repeat' split) <;> first | rfl | omega | (exfalso; omega))
        · have qc_4 := ti_eq (n := 3) (by decide) c_4
          refine j_iload_n X 3 rfl rfl dX8_change_45 ?_
          refine j_iconst X (v := 0) (by decide) dX8_change_46 ?_
          refine j_sipush X (v := 999) (by decide) dX8_change_47 ?_
          refine j_callSI X (nn := 3) (As := [.int v, .int 0, .int 999]) (st := []) aw_134 (c_X8_in l D y ad M v 0 999 0 999 (by decide) (by decide)) aw_133 aw_135 aw_5 (by decide +kernel) ⟨by decide, by decide⟩ rfl (Nat.le_of_ble_eq_true rfl) ⟨by decide, by decide⟩ dX8_change_50 ?_
          rintro r_ M1_ (⟨rfl, rfl, h_6⟩ | ⟨rfl, rfl, h_6⟩)
          · refine j_if_eq X 60 (by decide) dX8_change_53 (fun c_7 => False.elim (by revert c_7; decide)) (fun c_7 => ?_)
            refine j_iconst X (v := 1) (by decide) dX8_change_56 ?_
            refine j_goto X 61 (by decide) dX8_change_57 ?_
            refine j_istore X [(4, .int 1), (0, .ref (ad 79)), (1, .int q), (2, .int what), (3, .int v)] (by decide) rfl dX8_change_61 ?_
            refine j_aload_n X 1 rfl rfl dX8_change_63 ?_
            refine j_iload_n X 2 rfl rfl dX8_change_64 ?_
            refine j_callVI X (nn := 1) (As := [.int q]) (st := []) (ci := 8) (by decide) (wE_8 _ rfl) rfl aw_231 aw_232 (c_X8_isQuarrel0 l D y ad M hz.2.2.1 q) aw_230 aw_233 aw_5 (by decide +kernel) ⟨by decide, by decide⟩ rfl (Nat.le_of_ble_eq_true rfl) ⟨by decide, by decide⟩ dX8_change_65 ?_
            rintro r_ M1_ ⟨rfl, rfl⟩
            refine j_if_eq X 76 (by decide) dX8_change_68 (fun c_8 => ?_) (fun c_8 => False.elim (by revert c_8; decide))
            refine j_aload_n X 1 rfl rfl dX8_change_76 ?_
            refine j_ldc X (v := (-1000000001)) aw_132 dX8_change_77 ?_
            refine j_callVI X (nn := 1) (As := [.int (-1000000001)]) (st := []) (ci := 8) (by decide) (wE_8 _ rfl) rfl aw_144 aw_145 (c_X8_errs l D y ad M (-1000000001) 1 (by decide) (by decide)) aw_143 aw_146 aw_5 (by decide +kernel) ⟨by decide, by decide⟩ rfl (Nat.le_of_ble_eq_true rfl) ⟨by decide, by decide⟩ dX8_change_79 ?_
            rintro r_ M1_ ⟨rfl, rfl⟩
            exact j_iret X hr hlocks dX8_change_82 (by unfold sp_change; (repeat' split) <;> first | rfl | omega | (exfalso; omega))
          · refine j_if_eq X 60 (by decide) dX8_change_53 (fun c_9 => ?_) (fun c_9 => False.elim (by revert c_9; decide))
            refine j_iconst X (v := 0) (by decide) dX8_change_60 ?_
            refine j_istore X [(4, .int 0), (0, .ref (ad 79)), (1, .int q), (2, .int what), (3, .int v)] (by decide) rfl dX8_change_61 ?_
            refine j_aload_n X 1 rfl rfl dX8_change_63 ?_
            refine j_iload_n X 2 rfl rfl dX8_change_64 ?_
            refine j_callVI X (nn := 1) (As := [.int q]) (st := []) (ci := 8) (by decide) (wE_8 _ rfl) rfl aw_231 aw_232 (c_X8_isQuarrel0 l D y ad M hz.2.2.1 q) aw_230 aw_233 aw_5 (by decide +kernel) ⟨by decide, by decide⟩ rfl (Nat.le_of_ble_eq_true rfl) ⟨by decide, by decide⟩ dX8_change_65 ?_
            rintro r_ M1_ ⟨rfl, rfl⟩
            refine j_if_eq X 76 (by decide) dX8_change_68 (fun c_10 => ?_) (fun c_10 => False.elim (by revert c_10; decide))
            refine j_aload_n X 1 rfl rfl dX8_change_76 ?_
            refine j_ldc X (v := (-1000000001)) aw_132 dX8_change_77 ?_
            refine j_callVI X (nn := 1) (As := [.int (-1000000001)]) (st := []) (ci := 8) (by decide) (wE_8 _ rfl) rfl aw_144 aw_145 (c_X8_errs l D y ad M (-1000000001) 1 (by decide) (by decide)) aw_143 aw_146 aw_5 (by decide +kernel) ⟨by decide, by decide⟩ rfl (Nat.le_of_ble_eq_true rfl) ⟨by decide, by decide⟩ dX8_change_79 ?_
            rintro r_ M1_ ⟨rfl, rfl⟩
            exact j_iret X hr hlocks dX8_change_82 (by unfold sp_change; (repeat' split) <;> first | rfl | omega | (exfalso; omega))
      · have qc_3 := ti_eq (n := 2) (by decide) c_3
        refine j_iload_n X 3 rfl rfl dX8_change_31 ?_
        refine j_iconst X (v := 0) (by decide) dX8_change_32 ?_
        refine j_iconst X (v := 1) (by decide) dX8_change_33 ?_
        refine j_callSI X (nn := 3) (As := [.int v, .int 0, .int 1]) (st := []) aw_134 (c_X8_in l D y ad M v 0 1 0 1 (by decide) (by decide)) aw_133 aw_135 aw_5 (by decide +kernel) ⟨by decide, by decide⟩ rfl (Nat.le_of_ble_eq_true rfl) ⟨by decide, by decide⟩ dX8_change_34 ?_
        rintro r_ M1_ (⟨rfl, rfl, h_11⟩ | ⟨rfl, rfl, h_11⟩)
        · refine j_goto X 61 (by decide) dX8_change_37 ?_
          refine j_istore X [(4, .int 1), (0, .ref (ad 79)), (1, .int q), (2, .int what), (3, .int v)] (by decide) rfl dX8_change_61 ?_
          refine j_aload_n X 1 rfl rfl dX8_change_63 ?_
          refine j_iload_n X 2 rfl rfl dX8_change_64 ?_
          refine j_callVI X (nn := 1) (As := [.int q]) (st := []) (ci := 8) (by decide) (wE_8 _ rfl) rfl aw_231 aw_232 (c_X8_isQuarrel0 l D y ad M hz.2.2.1 q) aw_230 aw_233 aw_5 (by decide +kernel) ⟨by decide, by decide⟩ rfl (Nat.le_of_ble_eq_true rfl) ⟨by decide, by decide⟩ dX8_change_65 ?_
          rintro r_ M1_ ⟨rfl, rfl⟩
          refine j_if_eq X 76 (by decide) dX8_change_68 (fun c_12 => ?_) (fun c_12 => False.elim (by revert c_12; decide))
          refine j_aload_n X 1 rfl rfl dX8_change_76 ?_
          refine j_ldc X (v := (-1000000001)) aw_132 dX8_change_77 ?_
          refine j_callVI X (nn := 1) (As := [.int (-1000000001)]) (st := []) (ci := 8) (by decide) (wE_8 _ rfl) rfl aw_144 aw_145 (c_X8_errs l D y ad M (-1000000001) 1 (by decide) (by decide)) aw_143 aw_146 aw_5 (by decide +kernel) ⟨by decide, by decide⟩ rfl (Nat.le_of_ble_eq_true rfl) ⟨by decide, by decide⟩ dX8_change_79 ?_
          rintro r_ M1_ ⟨rfl, rfl⟩
          exact j_iret X hr hlocks dX8_change_82 (by unfold sp_change; (repeat' split) <;> first | rfl | omega | (exfalso; omega))
        · refine j_goto X 61 (by decide) dX8_change_37 ?_
          refine j_istore X [(4, .int 0), (0, .ref (ad 79)), (1, .int q), (2, .int what), (3, .int v)] (by decide) rfl dX8_change_61 ?_
          refine j_aload_n X 1 rfl rfl dX8_change_63 ?_
          refine j_iload_n X 2 rfl rfl dX8_change_64 ?_
          refine j_callVI X (nn := 1) (As := [.int q]) (st := []) (ci := 8) (by decide) (wE_8 _ rfl) rfl aw_231 aw_232 (c_X8_isQuarrel0 l D y ad M hz.2.2.1 q) aw_230 aw_233 aw_5 (by decide +kernel) ⟨by decide, by decide⟩ rfl (Nat.le_of_ble_eq_true rfl) ⟨by decide, by decide⟩ dX8_change_65 ?_
          rintro r_ M1_ ⟨rfl, rfl⟩
          refine j_if_eq X 76 (by decide) dX8_change_68 (fun c_13 => ?_) (fun c_13 => False.elim (by revert c_13; decide))
          refine j_aload_n X 1 rfl rfl dX8_change_76 ?_
          refine j_ldc X (v := (-1000000001)) aw_132 dX8_change_77 ?_
          refine j_callVI X (nn := 1) (As := [.int (-1000000001)]) (st := []) (ci := 8) (by decide) (wE_8 _ rfl) rfl aw_144 aw_145 (c_X8_errs l D y ad M (-1000000001) 1 (by decide) (by decide)) aw_143 aw_146 aw_5 (by decide +kernel) ⟨by decide, by decide⟩ rfl (Nat.le_of_ble_eq_true rfl) ⟨by decide, by decide⟩ dX8_change_79 ?_
          rintro r_ M1_ ⟨rfl, rfl⟩
          exact j_iret X hr hlocks dX8_change_82 (by unfold sp_change; (repeat' split) <;> first | rfl | omega | (exfalso; omega))
    · have qc_2 := ti_eq (n := 1) (by decide) c_2
      refine j_iload_n X 3 rfl rfl dX8_change_16 ?_
      refine j_iconst X (v := 0) (by decide) dX8_change_17 ?_
      refine j_bipush X (v := 99) (by decide) dX8_change_18 ?_
      refine j_callSI X (nn := 3) (As := [.int v, .int 0, .int 99]) (st := []) aw_134 (c_X8_in l D y ad M v 0 99 0 99 (by decide) (by decide)) aw_133 aw_135 aw_5 (by decide +kernel) ⟨by decide, by decide⟩ rfl (Nat.le_of_ble_eq_true rfl) ⟨by decide, by decide⟩ dX8_change_20 ?_
      rintro r_ M1_ (⟨rfl, rfl, h_14⟩ | ⟨rfl, rfl, h_14⟩)
      · refine j_goto X 61 (by decide) dX8_change_23 ?_
        refine j_istore X [(4, .int 1), (0, .ref (ad 79)), (1, .int q), (2, .int what), (3, .int v)] (by decide) rfl dX8_change_61 ?_
        refine j_aload_n X 1 rfl rfl dX8_change_63 ?_
        refine j_iload_n X 2 rfl rfl dX8_change_64 ?_
        refine j_callVI X (nn := 1) (As := [.int q]) (st := []) (ci := 8) (by decide) (wE_8 _ rfl) rfl aw_231 aw_232 (c_X8_isQuarrel0 l D y ad M hz.2.2.1 q) aw_230 aw_233 aw_5 (by decide +kernel) ⟨by decide, by decide⟩ rfl (Nat.le_of_ble_eq_true rfl) ⟨by decide, by decide⟩ dX8_change_65 ?_
        rintro r_ M1_ ⟨rfl, rfl⟩
        refine j_if_eq X 76 (by decide) dX8_change_68 (fun c_15 => ?_) (fun c_15 => False.elim (by revert c_15; decide))
        refine j_aload_n X 1 rfl rfl dX8_change_76 ?_
        refine j_ldc X (v := (-1000000001)) aw_132 dX8_change_77 ?_
        refine j_callVI X (nn := 1) (As := [.int (-1000000001)]) (st := []) (ci := 8) (by decide) (wE_8 _ rfl) rfl aw_144 aw_145 (c_X8_errs l D y ad M (-1000000001) 1 (by decide) (by decide)) aw_143 aw_146 aw_5 (by decide +kernel) ⟨by decide, by decide⟩ rfl (Nat.le_of_ble_eq_true rfl) ⟨by decide, by decide⟩ dX8_change_79 ?_
        rintro r_ M1_ ⟨rfl, rfl⟩
        exact j_iret X hr hlocks dX8_change_82 (by unfold sp_change; (repeat' split) <;> first | rfl | omega | (exfalso; omega))
      · refine j_goto X 61 (by decide) dX8_change_23 ?_
        refine j_istore X [(4, .int 0), (0, .ref (ad 79)), (1, .int q), (2, .int what), (3, .int v)] (by decide) rfl dX8_change_61 ?_
        refine j_aload_n X 1 rfl rfl dX8_change_63 ?_
        refine j_iload_n X 2 rfl rfl dX8_change_64 ?_
        refine j_callVI X (nn := 1) (As := [.int q]) (st := []) (ci := 8) (by decide) (wE_8 _ rfl) rfl aw_231 aw_232 (c_X8_isQuarrel0 l D y ad M hz.2.2.1 q) aw_230 aw_233 aw_5 (by decide +kernel) ⟨by decide, by decide⟩ rfl (Nat.le_of_ble_eq_true rfl) ⟨by decide, by decide⟩ dX8_change_65 ?_
        rintro r_ M1_ ⟨rfl, rfl⟩
        refine j_if_eq X 76 (by decide) dX8_change_68 (fun c_16 => ?_) (fun c_16 => False.elim (by revert c_16; decide))
        refine j_aload_n X 1 rfl rfl dX8_change_76 ?_
        refine j_ldc X (v := (-1000000001)) aw_132 dX8_change_77 ?_
        refine j_callVI X (nn := 1) (As := [.int (-1000000001)]) (st := []) (ci := 8) (by decide) (wE_8 _ rfl) rfl aw_144 aw_145 (c_X8_errs l D y ad M (-1000000001) 1 (by decide) (by decide)) aw_143 aw_146 aw_5 (by decide +kernel) ⟨by decide, by decide⟩ rfl (Nat.le_of_ble_eq_true rfl) ⟨by decide, by decide⟩ dX8_change_79 ?_
        rintro r_ M1_ ⟨rfl, rfl⟩
        exact j_iret X hr hlocks dX8_change_82 (by unfold sp_change; (repeat' split) <;> first | rfl | omega | (exfalso; omega))
  · have qc_1 := ti_eq (n := 0) (by decide) c_1
    refine j_iload_n X 3 rfl rfl dX8_change_4 ?_
    refine j_callSI X (nn := 1) (As := [.int v]) (st := []) aw_137 (c_X8_isArea l D y ad M v) aw_136 aw_138 aw_5 (by decide +kernel) ⟨by decide, by decide⟩ rfl (Nat.le_of_ble_eq_true rfl) ⟨by decide, by decide⟩ dX8_change_5 ?_
    rintro r_ M1_ (⟨rfl, rfl, h_17⟩ | ⟨rfl, rfl, h_17⟩)
    · refine j_goto X 61 (by decide) dX8_change_8 ?_
      refine j_istore X [(4, .int 1), (0, .ref (ad 79)), (1, .int q), (2, .int what), (3, .int v)] (by decide) rfl dX8_change_61 ?_
      refine j_aload_n X 1 rfl rfl dX8_change_63 ?_
      refine j_iload_n X 2 rfl rfl dX8_change_64 ?_
      refine j_callVI X (nn := 1) (As := [.int q]) (st := []) (ci := 8) (by decide) (wE_8 _ rfl) rfl aw_231 aw_232 (c_X8_isQuarrel0 l D y ad M hz.2.2.1 q) aw_230 aw_233 aw_5 (by decide +kernel) ⟨by decide, by decide⟩ rfl (Nat.le_of_ble_eq_true rfl) ⟨by decide, by decide⟩ dX8_change_65 ?_
      rintro r_ M1_ ⟨rfl, rfl⟩
      refine j_if_eq X 76 (by decide) dX8_change_68 (fun c_18 => ?_) (fun c_18 => False.elim (by revert c_18; decide))
      refine j_aload_n X 1 rfl rfl dX8_change_76 ?_
      refine j_ldc X (v := (-1000000001)) aw_132 dX8_change_77 ?_
      refine j_callVI X (nn := 1) (As := [.int (-1000000001)]) (st := []) (ci := 8) (by decide) (wE_8 _ rfl) rfl aw_144 aw_145 (c_X8_errs l D y ad M (-1000000001) 1 (by decide) (by decide)) aw_143 aw_146 aw_5 (by decide +kernel) ⟨by decide, by decide⟩ rfl (Nat.le_of_ble_eq_true rfl) ⟨by decide, by decide⟩ dX8_change_79 ?_
      rintro r_ M1_ ⟨rfl, rfl⟩
      exact j_iret X hr hlocks dX8_change_82 (by unfold sp_change; (repeat' split) <;> first | rfl | omega | (exfalso; omega))
    · refine j_goto X 61 (by decide) dX8_change_8 ?_
      refine j_istore X [(4, .int 0), (0, .ref (ad 79)), (1, .int q), (2, .int what), (3, .int v)] (by decide) rfl dX8_change_61 ?_
      refine j_aload_n X 1 rfl rfl dX8_change_63 ?_
      refine j_iload_n X 2 rfl rfl dX8_change_64 ?_
      refine j_callVI X (nn := 1) (As := [.int q]) (st := []) (ci := 8) (by decide) (wE_8 _ rfl) rfl aw_231 aw_232 (c_X8_isQuarrel0 l D y ad M hz.2.2.1 q) aw_230 aw_233 aw_5 (by decide +kernel) ⟨by decide, by decide⟩ rfl (Nat.le_of_ble_eq_true rfl) ⟨by decide, by decide⟩ dX8_change_65 ?_
      rintro r_ M1_ ⟨rfl, rfl⟩
      refine j_if_eq X 76 (by decide) dX8_change_68 (fun c_19 => ?_) (fun c_19 => False.elim (by revert c_19; decide))
      refine j_aload_n X 1 rfl rfl dX8_change_76 ?_
      refine j_ldc X (v := (-1000000001)) aw_132 dX8_change_77 ?_
      refine j_callVI X (nn := 1) (As := [.int (-1000000001)]) (st := []) (ci := 8) (by decide) (wE_8 _ rfl) rfl aw_144 aw_145 (c_X8_errs l D y ad M (-1000000001) 1 (by decide) (by decide)) aw_143 aw_146 aw_5 (by decide +kernel) ⟨by decide, by decide⟩ rfl (Nat.le_of_ble_eq_true rfl) ⟨by decide, by decide⟩ dX8_change_79 ?_
      rintro r_ M1_ ⟨rfl, rfl⟩
      exact j_iret X hr hlocks dX8_change_82 (by unfold sp_change; (repeat' split) <;> first | rfl | omega | (exfalso; omega))
set_option maxRecDepth 100000 in
set_option maxHeartbeats 4000000 in
theorem c0_X8_inArea (l : Launch) (D : va_G) (y : wY) (ad : Nat → Nat) (M : Mem) (hz : Z1 M) (a : Int32) : MI l D y ad yX8_inArea (Cond.code yX8_inArea cX8_inArea 4 (some .int)) 6 M [.ref (ad 79), .int a] (fun r _ => sp_inArea a = r) := by
  refine MI_of (by decide) (Nat.le_of_ble_eq_true rfl) ?_
  intro p e s m args below meth c X hr hlocks
  refine j_lv (lv1 := [(0, .ref (ad 79)), (1, .int a)]) [0, 1] rfl ?_
  refine j_iload_n X 1 rfl rfl dX8_inArea_0 ?_
  refine j_callSI X (nn := 1) (As := [.int a]) (st := []) aw_137 (c_X8_isArea l D y ad M a) aw_136 aw_138 aw_5 (by decide +kernel) ⟨by decide, by decide⟩ rfl (Nat.le_of_ble_eq_true rfl) ⟨by decide, by decide⟩ dX8_inArea_1 ?_
  rintro r_ M1_ (⟨rfl, rfl, h_1⟩ | ⟨rfl, rfl, h_1⟩)
  · refine j_if_ne X 14 (by decide) dX8_inArea_4 (fun c_2 => ?_) (fun c_2 => False.elim (by revert c_2; decide))
    refine j_iconst X (v := 0) (by decide) dX8_inArea_14 ?_
    refine j_istore_n X [(2, .int 0), (0, .ref (ad 79)), (1, .int a)] rfl (by decide) rfl dX8_inArea_15 ?_
    refine j_iconst X (v := 0) (by decide) dX8_inArea_16 ?_
    refine j_istore_n X [(3, .int 0), (2, .int 0), (0, .ref (ad 79)), (1, .int a)] rfl (by decide) rfl dX8_inArea_17 ?_
    refine j_iload_n X 0 rfl rfl dX8_inArea_18 ?_
    refine j_aload_n X 2 rfl rfl dX8_inArea_19 ?_
    refine j_get X (by decide) (wE_8 _ rfl) rfl awF8 0 (by decide) aw_92 rfl (v := .ref (ad 80)) rfl dX8_inArea_20 ?_
    refine j_iconst X (v := 2) (by decide) dX8_inArea_23 ?_
    refine j_iald X (by decide) rfl (by unfold vp_in; decide) dX8_inArea_24 ?_
    refine j_eqi (v := 0) hz.2.2.1 ?_
    refine j_icmp_ge X 54 (by decide) dX8_inArea_25 (fun c_3 => ?_) (fun c_3 => False.elim (by revert c_3; decide))
    refine j_iload_n X 1 rfl rfl dX8_inArea_54 ?_
    exact j_iret X hr hlocks dX8_inArea_55 (by unfold sp_inArea; (repeat' split) <;> first | rfl | omega | (exfalso; omega))
  · refine j_if_ne X 14 (by decide) dX8_inArea_4 (fun c_4 => False.elim (by revert c_4; decide)) (fun c_4 => ?_)
    refine j_aload_n X 0 rfl rfl dX8_inArea_7 ?_
    refine j_ldc X (v := (-1000000001)) aw_132 dX8_inArea_8 ?_
    refine j_callVI X (nn := 1) (As := [.int (-1000000001)]) (st := []) (ci := 8) (by decide) (wE_8 _ rfl) rfl aw_144 aw_145 (c_X8_errs l D y ad M (-1000000001) 1 (by decide) (by decide)) aw_143 aw_146 aw_5 (by decide +kernel) ⟨by decide, by decide⟩ rfl (Nat.le_of_ble_eq_true rfl) ⟨by decide, by decide⟩ dX8_inArea_10 ?_
    rintro r_ M1_ ⟨rfl, rfl⟩
    exact j_iret X hr hlocks dX8_inArea_13 (by unfold sp_inArea; (repeat' split) <;> first | rfl | omega | (exfalso; omega))
set_option maxRecDepth 100000 in
set_option maxHeartbeats 4000000 in
theorem c_becomes_7 (l : Launch) (D : va_G) (y : wY) (ad : Nat → Nat) (M : Mem) (v : Int32) : MI l D y ad yX8_becomes (Cond.code yX8_becomes cX8_becomes 4 (some .int)) 0 M [.ref (ad 79), .int 7, .int v] (fun r _ => M 80 7 = r) := by
  refine MI_of (by decide) (Nat.le_of_ble_eq_true rfl) ?_
  intro p e s m args below meth c X hr hlocks
  refine j_lv (lv1 := [(0, .ref (ad 79)), (1, .int 7), (2, .int v)]) [0, 1, 2] rfl ?_
  refine j_aload_n X 0 rfl rfl dX8_becomes_0 ?_
  refine j_get X (by decide) (wE_8 _ rfl) rfl awF8 0 (by decide) aw_92 rfl (v := .ref (ad 80)) rfl dX8_becomes_1 ?_
  refine j_iload_n X 1 rfl rfl dX8_becomes_4 ?_
  refine j_iald X (by decide) rfl (by unfold vp_in; decide) dX8_becomes_5 ?_
  refine j_eqi (v := M 80 7) rfl ?_
  refine j_istore_n X [(3, .int (M 80 7)), (0, .ref (ad 79)), (1, .int 7), (2, .int v)] rfl (by decide) rfl dX8_becomes_6 ?_
  refine j_aload_n X 1 rfl rfl dX8_becomes_7 ?_
  refine j_get X (by decide) (wE_8 _ rfl) rfl awF8 0 (by decide) aw_92 rfl (v := .ref (ad 80)) rfl dX8_becomes_8 ?_
  refine j_iload_n X 2 rfl rfl dX8_becomes_11 ?_
  refine j_iload_n X 3 rfl rfl dX8_becomes_12 ?_
  refine j_iast X (by decide) rfl (by unfold vp_in; decide) dX8_becomes_13 ?_
  refine j_eqM (M1 := (up M 80 7 v)) rfl ?_
  refine j_iload_n X 0 rfl rfl dX8_becomes_14 ?_
  exact j_iret X hr hlocks dX8_becomes_15 rfl
set_option maxRecDepth 100000 in
set_option maxHeartbeats 4000000 in
theorem c_becomes_8 (l : Launch) (D : va_G) (y : wY) (ad : Nat → Nat) (M : Mem) (v : Int32) : MI l D y ad yX8_becomes (Cond.code yX8_becomes cX8_becomes 4 (some .int)) 0 M [.ref (ad 79), .int 8, .int v] (fun r _ => M 80 8 = r) := by
  refine MI_of (by decide) (Nat.le_of_ble_eq_true rfl) ?_
  intro p e s m args below meth c X hr hlocks
  refine j_lv (lv1 := [(0, .ref (ad 79)), (1, .int 8), (2, .int v)]) [0, 1, 2] rfl ?_
  refine j_aload_n X 0 rfl rfl dX8_becomes_0 ?_
  refine j_get X (by decide) (wE_8 _ rfl) rfl awF8 0 (by decide) aw_92 rfl (v := .ref (ad 80)) rfl dX8_becomes_1 ?_
  refine j_iload_n X 1 rfl rfl dX8_becomes_4 ?_
  refine j_iald X (by decide) rfl (by unfold vp_in; decide) dX8_becomes_5 ?_
  refine j_eqi (v := M 80 8) rfl ?_
  refine j_istore_n X [(3, .int (M 80 8)), (0, .ref (ad 79)), (1, .int 8), (2, .int v)] rfl (by decide) rfl dX8_becomes_6 ?_
  refine j_aload_n X 1 rfl rfl dX8_becomes_7 ?_
  refine j_get X (by decide) (wE_8 _ rfl) rfl awF8 0 (by decide) aw_92 rfl (v := .ref (ad 80)) rfl dX8_becomes_8 ?_
  refine j_iload_n X 2 rfl rfl dX8_becomes_11 ?_
  refine j_iload_n X 3 rfl rfl dX8_becomes_12 ?_
  refine j_iast X (by decide) rfl (by unfold vp_in; decide) dX8_becomes_13 ?_
  refine j_eqM (M1 := (up M 80 8 v)) rfl ?_
  refine j_iload_n X 0 rfl rfl dX8_becomes_14 ?_
  exact j_iret X hr hlocks dX8_becomes_15 rfl
set_option maxRecDepth 100000 in
set_option maxHeartbeats 4000000 in
theorem c_becomes_9 (l : Launch) (D : va_G) (y : wY) (ad : Nat → Nat) (M : Mem) (v : Int32) : MI l D y ad yX8_becomes (Cond.code yX8_becomes cX8_becomes 4 (some .int)) 0 M [.ref (ad 79), .int 9, .int v] (fun r _ => M 80 9 = r) := by
  refine MI_of (by decide) (Nat.le_of_ble_eq_true rfl) ?_
  intro p e s m args below meth c X hr hlocks
  refine j_lv (lv1 := [(0, .ref (ad 79)), (1, .int 9), (2, .int v)]) [0, 1, 2] rfl ?_
  refine j_aload_n X 0 rfl rfl dX8_becomes_0 ?_
  refine j_get X (by decide) (wE_8 _ rfl) rfl awF8 0 (by decide) aw_92 rfl (v := .ref (ad 80)) rfl dX8_becomes_1 ?_
  refine j_iload_n X 1 rfl rfl dX8_becomes_4 ?_
  refine j_iald X (by decide) rfl (by unfold vp_in; decide) dX8_becomes_5 ?_
  refine j_eqi (v := M 80 9) rfl ?_
  refine j_istore_n X [(3, .int (M 80 9)), (0, .ref (ad 79)), (1, .int 9), (2, .int v)] rfl (by decide) rfl dX8_becomes_6 ?_
  refine j_aload_n X 1 rfl rfl dX8_becomes_7 ?_
  refine j_get X (by decide) (wE_8 _ rfl) rfl awF8 0 (by decide) aw_92 rfl (v := .ref (ad 80)) rfl dX8_becomes_8 ?_
  refine j_iload_n X 2 rfl rfl dX8_becomes_11 ?_
  refine j_iload_n X 3 rfl rfl dX8_becomes_12 ?_
  refine j_iast X (by decide) rfl (by unfold vp_in; decide) dX8_becomes_13 ?_
  refine j_eqM (M1 := (up M 80 9 v)) rfl ?_
  refine j_iload_n X 0 rfl rfl dX8_becomes_14 ?_
  exact j_iret X hr hlocks dX8_becomes_15 rfl
set_option maxRecDepth 100000 in
set_option maxHeartbeats 4000000 in
theorem c_becomes_10 (l : Launch) (D : va_G) (y : wY) (ad : Nat → Nat) (M : Mem) (v : Int32) : MI l D y ad yX8_becomes (Cond.code yX8_becomes cX8_becomes 4 (some .int)) 0 M [.ref (ad 79), .int 10, .int v] (fun r _ => M 80 10 = r) := by
  refine MI_of (by decide) (Nat.le_of_ble_eq_true rfl) ?_
  intro p e s m args below meth c X hr hlocks
  refine j_lv (lv1 := [(0, .ref (ad 79)), (1, .int 10), (2, .int v)]) [0, 1, 2] rfl ?_
  refine j_aload_n X 0 rfl rfl dX8_becomes_0 ?_
  refine j_get X (by decide) (wE_8 _ rfl) rfl awF8 0 (by decide) aw_92 rfl (v := .ref (ad 80)) rfl dX8_becomes_1 ?_
  refine j_iload_n X 1 rfl rfl dX8_becomes_4 ?_
  refine j_iald X (by decide) rfl (by unfold vp_in; decide) dX8_becomes_5 ?_
  refine j_eqi (v := M 80 10) rfl ?_
  refine j_istore_n X [(3, .int (M 80 10)), (0, .ref (ad 79)), (1, .int 10), (2, .int v)] rfl (by decide) rfl dX8_becomes_6 ?_
  refine j_aload_n X 1 rfl rfl dX8_becomes_7 ?_
  refine j_get X (by decide) (wE_8 _ rfl) rfl awF8 0 (by decide) aw_92 rfl (v := .ref (ad 80)) rfl dX8_becomes_8 ?_
  refine j_iload_n X 2 rfl rfl dX8_becomes_11 ?_
  refine j_iload_n X 3 rfl rfl dX8_becomes_12 ?_
  refine j_iast X (by decide) rfl (by unfold vp_in; decide) dX8_becomes_13 ?_
  refine j_eqM (M1 := (up M 80 10 v)) rfl ?_
  refine j_iload_n X 0 rfl rfl dX8_becomes_14 ?_
  exact j_iret X hr hlocks dX8_becomes_15 rfl
set_option maxRecDepth 100000 in
set_option maxHeartbeats 4000000 in
theorem c0_X8_set (l : Launch) (D : va_G) (y : wY) (ad : Nat → Nat) (M : Mem) (hz : Z1 M) (what v : Int32) : MI l D y ad yX8_set (Cond.code yX8_set cX8_set 4 (some .int)) 6 M [.ref (ad 79), .int what, .int v] (fun r _ => sp_set what v = r) := by
  refine MI_of (by decide) (Nat.le_of_ble_eq_true rfl) ?_
  intro p e s m args below meth c X hr hlocks
  refine j_lv (lv1 := [(0, .ref (ad 79)), (1, .int what), (2, .int v)]) [0, 1, 2] rfl ?_
  refine j_iload_n X 1 rfl rfl dX8_set_0 ?_
  refine j_iconst X (v := 0) (by decide) dX8_set_1 ?_
  refine j_iconst X (v := 1) (by decide) dX8_set_2 ?_
  refine j_callSI X (nn := 3) (As := [.int what, .int 0, .int 1]) (st := []) aw_134 (c_X8_in l D y ad M what 0 1 0 1 (by decide) (by decide)) aw_133 aw_135 aw_5 (by decide +kernel) ⟨by decide, by decide⟩ rfl (Nat.le_of_ble_eq_true rfl) ⟨by decide, by decide⟩ dX8_set_3 ?_
  rintro r_ M1_ (⟨rfl, rfl, h_1⟩ | ⟨rfl, rfl, h_1⟩)
  · refine j_if_eq X 16 (by decide) dX8_set_6 (fun c_2 => False.elim (by revert c_2; decide)) (fun c_2 => ?_)
    refine j_iload_n X 2 rfl rfl dX8_set_9 ?_
    refine j_callSI X (nn := 1) (As := [.int v]) (st := []) aw_137 (c_X8_isArea l D y ad M v) aw_136 aw_138 aw_5 (by decide +kernel) ⟨by decide, by decide⟩ rfl (Nat.le_of_ble_eq_true rfl) ⟨by decide, by decide⟩ dX8_set_10 ?_
    rintro r_ M1_ (⟨rfl, rfl, h_3⟩ | ⟨rfl, rfl, h_3⟩)
    · refine j_goto X 40 (by decide) dX8_set_13 ?_
      refine j_istore_n X [(3, .int 1), (0, .ref (ad 79)), (1, .int what), (2, .int v)] rfl (by decide) rfl dX8_set_40 ?_
      refine j_iload_n X 0 rfl rfl dX8_set_41 ?_
      refine j_if_eq X 57 (by decide) dX8_set_42 (fun c_4 => False.elim (by revert c_4; decide)) (fun c_4 => ?_)
      rcases is_0_1 h_1 with rfl | rfl
      · refine j_aload_n X 1 rfl rfl dX8_set_45 ?_
        refine j_bipush X (v := 7) (by decide) dX8_set_46 ?_
        refine j_iload_n X 2 rfl rfl dX8_set_48 ?_
        refine j_iadd X dX8_set_49 ?_
        refine j_eqi (v := 7) (by decide) ?_
        refine j_iload_n X 3 rfl rfl dX8_set_50 ?_
        refine j_callVI X (nn := 2) (As := [.int 7, .int v]) (st := []) (ci := 8) (by decide) (wE_8 _ rfl) rfl aw_140 aw_141 (c_becomes_7 l D y ad M v) aw_139 aw_142 aw_5 (by decide +kernel) ⟨by decide, by decide⟩ rfl (Nat.le_of_ble_eq_true rfl) ⟨by decide, by decide⟩ dX8_set_51 ?_
        rintro r_ M1_ rfl
        refine j_goto X 63 (by decide) dX8_set_54 ?_
        exact j_iret X hr hlocks dX8_set_63 (by rw [hz.2.2.2.2.2.2.2.1]; unfold sp_set; rw [if_pos (Or.inl ⟨by decide, by omega⟩)]; decide)
      · refine j_aload_n X 1 rfl rfl dX8_set_45 ?_
        refine j_bipush X (v := 7) (by decide) dX8_set_46 ?_
        refine j_iload_n X 2 rfl rfl dX8_set_48 ?_
        refine j_iadd X dX8_set_49 ?_
        refine j_eqi (v := 8) (by decide) ?_
        refine j_iload_n X 3 rfl rfl dX8_set_50 ?_
        refine j_callVI X (nn := 2) (As := [.int 8, .int v]) (st := []) (ci := 8) (by decide) (wE_8 _ rfl) rfl aw_140 aw_141 (c_becomes_8 l D y ad M v) aw_139 aw_142 aw_5 (by decide +kernel) ⟨by decide, by decide⟩ rfl (Nat.le_of_ble_eq_true rfl) ⟨by decide, by decide⟩ dX8_set_51 ?_
        rintro r_ M1_ rfl
        refine j_goto X 63 (by decide) dX8_set_54 ?_
        exact j_iret X hr hlocks dX8_set_63 (by rw [hz.2.2.2.2.2.2.2.2.1]; unfold sp_set; rw [if_pos (Or.inl ⟨by decide, by omega⟩)]; decide)
    · refine j_goto X 40 (by decide) dX8_set_13 ?_
      refine j_istore_n X [(3, .int 0), (0, .ref (ad 79)), (1, .int what), (2, .int v)] rfl (by decide) rfl dX8_set_40 ?_
      refine j_iload_n X 0 rfl rfl dX8_set_41 ?_
      refine j_if_eq X 57 (by decide) dX8_set_42 (fun c_5 => ?_) (fun c_5 => False.elim (by revert c_5; decide))
      refine j_aload_n X 1 rfl rfl dX8_set_57 ?_
      refine j_ldc X (v := (-1000000001)) aw_132 dX8_set_58 ?_
      refine j_callVI X (nn := 1) (As := [.int (-1000000001)]) (st := []) (ci := 8) (by decide) (wE_8 _ rfl) rfl aw_144 aw_145 (c_X8_errs l D y ad M (-1000000001) 1 (by decide) (by decide)) aw_143 aw_146 aw_5 (by decide +kernel) ⟨by decide, by decide⟩ rfl (Nat.le_of_ble_eq_true rfl) ⟨by decide, by decide⟩ dX8_set_60 ?_
      rintro r_ M1_ ⟨rfl, rfl⟩
      exact j_iret X hr hlocks dX8_set_63 (by unfold sp_set; (repeat' split) <;> first | rfl | omega | (exfalso; omega))
  · refine j_if_eq X 16 (by decide) dX8_set_6 (fun c_6 => ?_) (fun c_6 => False.elim (by revert c_6; decide))
    refine j_iload_n X 1 rfl rfl dX8_set_16 ?_
    refine j_iconst X (v := 2) (by decide) dX8_set_17 ?_
    refine j_iconst X (v := 3) (by decide) dX8_set_18 ?_
    refine j_callSI X (nn := 3) (As := [.int what, .int 2, .int 3]) (st := []) aw_134 (c_X8_in l D y ad M what 2 3 2 3 (by decide) (by decide)) aw_133 aw_135 aw_5 (by decide +kernel) ⟨by decide, by decide⟩ rfl (Nat.le_of_ble_eq_true rfl) ⟨by decide, by decide⟩ dX8_set_19 ?_
    rintro r_ M1_ (⟨rfl, rfl, h_7⟩ | ⟨rfl, rfl, h_7⟩)
    · refine j_if_eq X 39 (by decide) dX8_set_22 (fun c_8 => False.elim (by revert c_8; decide)) (fun c_8 => ?_)
      refine j_iload_n X 2 rfl rfl dX8_set_25 ?_
      refine j_iconst X (v := 0) (by decide) dX8_set_26 ?_
      refine j_ldc X (v := 99999) aw_131 dX8_set_27 ?_
      refine j_callSI X (nn := 3) (As := [.int v, .int 0, .int 99999]) (st := []) aw_134 (c_X8_in l D y ad M v 0 99999 0 99999 (by decide) (by decide)) aw_133 aw_135 aw_5 (by decide +kernel) ⟨by decide, by decide⟩ rfl (Nat.le_of_ble_eq_true rfl) ⟨by decide, by decide⟩ dX8_set_29 ?_
      rintro r_ M1_ (⟨rfl, rfl, h_9⟩ | ⟨rfl, rfl, h_9⟩)
      · refine j_if_eq X 39 (by decide) dX8_set_32 (fun c_10 => False.elim (by revert c_10; decide)) (fun c_10 => ?_)
        refine j_iconst X (v := 1) (by decide) dX8_set_35 ?_
        refine j_goto X 40 (by decide) dX8_set_36 ?_
        refine j_istore_n X [(3, .int 1), (0, .ref (ad 79)), (1, .int what), (2, .int v)] rfl (by decide) rfl dX8_set_40 ?_
        refine j_iload_n X 0 rfl rfl dX8_set_41 ?_
        refine j_if_eq X 57 (by decide) dX8_set_42 (fun c_11 => False.elim (by revert c_11; decide)) (fun c_11 => ?_)
        rcases is_2_3 h_7 with rfl | rfl
        · refine j_aload_n X 1 rfl rfl dX8_set_45 ?_
          refine j_bipush X (v := 7) (by decide) dX8_set_46 ?_
          refine j_iload_n X 2 rfl rfl dX8_set_48 ?_
          refine j_iadd X dX8_set_49 ?_
          refine j_eqi (v := 9) (by decide) ?_
          refine j_iload_n X 3 rfl rfl dX8_set_50 ?_
          refine j_callVI X (nn := 2) (As := [.int 9, .int v]) (st := []) (ci := 8) (by decide) (wE_8 _ rfl) rfl aw_140 aw_141 (c_becomes_9 l D y ad M v) aw_139 aw_142 aw_5 (by decide +kernel) ⟨by decide, by decide⟩ rfl (Nat.le_of_ble_eq_true rfl) ⟨by decide, by decide⟩ dX8_set_51 ?_
          rintro r_ M1_ rfl
          refine j_goto X 63 (by decide) dX8_set_54 ?_
          exact j_iret X hr hlocks dX8_set_63 (by rw [hz.2.2.2.2.2.2.2.2.2.1]; unfold sp_set; rw [if_pos (Or.inr ⟨by decide, by omega⟩)]; decide)
        · refine j_aload_n X 1 rfl rfl dX8_set_45 ?_
          refine j_bipush X (v := 7) (by decide) dX8_set_46 ?_
          refine j_iload_n X 2 rfl rfl dX8_set_48 ?_
          refine j_iadd X dX8_set_49 ?_
          refine j_eqi (v := 10) (by decide) ?_
          refine j_iload_n X 3 rfl rfl dX8_set_50 ?_
          refine j_callVI X (nn := 2) (As := [.int 10, .int v]) (st := []) (ci := 8) (by decide) (wE_8 _ rfl) rfl aw_140 aw_141 (c_becomes_10 l D y ad M v) aw_139 aw_142 aw_5 (by decide +kernel) ⟨by decide, by decide⟩ rfl (Nat.le_of_ble_eq_true rfl) ⟨by decide, by decide⟩ dX8_set_51 ?_
          rintro r_ M1_ rfl
          refine j_goto X 63 (by decide) dX8_set_54 ?_
          exact j_iret X hr hlocks dX8_set_63 (by rw [hz.2.2.2.2.2.2.2.2.2.2.1]; unfold sp_set; rw [if_pos (Or.inr ⟨by decide, by omega⟩)]; decide)
      · refine j_if_eq X 39 (by decide) dX8_set_32 (fun c_12 => ?_) (fun c_12 => False.elim (by revert c_12; decide))
        refine j_iconst X (v := 0) (by decide) dX8_set_39 ?_
        refine j_istore_n X [(3, .int 0), (0, .ref (ad 79)), (1, .int what), (2, .int v)] rfl (by decide) rfl dX8_set_40 ?_
        refine j_iload_n X 0 rfl rfl dX8_set_41 ?_
        refine j_if_eq X 57 (by decide) dX8_set_42 (fun c_13 => ?_) (fun c_13 => False.elim (by revert c_13; decide))
        refine j_aload_n X 1 rfl rfl dX8_set_57 ?_
        refine j_ldc X (v := (-1000000001)) aw_132 dX8_set_58 ?_
        refine j_callVI X (nn := 1) (As := [.int (-1000000001)]) (st := []) (ci := 8) (by decide) (wE_8 _ rfl) rfl aw_144 aw_145 (c_X8_errs l D y ad M (-1000000001) 1 (by decide) (by decide)) aw_143 aw_146 aw_5 (by decide +kernel) ⟨by decide, by decide⟩ rfl (Nat.le_of_ble_eq_true rfl) ⟨by decide, by decide⟩ dX8_set_60 ?_
        rintro r_ M1_ ⟨rfl, rfl⟩
        exact j_iret X hr hlocks dX8_set_63 (by unfold sp_set; (repeat' split) <;> first | rfl | omega | (exfalso; omega))
    · refine j_if_eq X 39 (by decide) dX8_set_22 (fun c_14 => ?_) (fun c_14 => False.elim (by revert c_14; decide))
      refine j_iconst X (v := 0) (by decide) dX8_set_39 ?_
      refine j_istore_n X [(3, .int 0), (0, .ref (ad 79)), (1, .int what), (2, .int v)] rfl (by decide) rfl dX8_set_40 ?_
      refine j_iload_n X 0 rfl rfl dX8_set_41 ?_
      refine j_if_eq X 57 (by decide) dX8_set_42 (fun c_15 => ?_) (fun c_15 => False.elim (by revert c_15; decide))
      refine j_aload_n X 1 rfl rfl dX8_set_57 ?_
      refine j_ldc X (v := (-1000000001)) aw_132 dX8_set_58 ?_
      refine j_callVI X (nn := 1) (As := [.int (-1000000001)]) (st := []) (ci := 8) (by decide) (wE_8 _ rfl) rfl aw_144 aw_145 (c_X8_errs l D y ad M (-1000000001) 1 (by decide) (by decide)) aw_143 aw_146 aw_5 (by decide +kernel) ⟨by decide, by decide⟩ rfl (Nat.le_of_ble_eq_true rfl) ⟨by decide, by decide⟩ dX8_set_60 ?_
      rintro r_ M1_ ⟨rfl, rfl⟩
      exact j_iret X hr hlocks dX8_set_63 (by unfold sp_set; (repeat' split) <;> first | rfl | omega | (exfalso; omega))
set_option maxRecDepth 100000 in
set_option maxHeartbeats 4000000 in
theorem c_held0 (l : Launch) (D : va_G) (y : wY) (ad : Nat → Nat) (M : Mem) (v : Int32) : MI l D y ad yX8_held (Cond.code yX8_held cX8_held 3 (some .int)) 0 M [.int v, .int 0, .int 99] (fun r M' => clampI v = r ∧ M = M') := by
  refine MI_of (by decide) (Nat.le_of_ble_eq_true rfl) ?_
  intro p e s m args below meth c X hr hlocks
  refine j_lv (lv1 := [(0, .int v), (1, .int 0), (2, .int 99)]) [0, 1, 2] rfl ?_
  refine j_iload_n X 0 rfl rfl dX8_held_0 ?_
  refine j_iload_n X 1 rfl rfl dX8_held_1 ?_
  refine j_icmp_ge X 9 (by decide) dX8_held_2 (fun c_1 => ?_) (fun c_1 => ?_)
  · have qc_1 := ti_le (a := 0) (b := v.toInt) (by decide) rfl c_1
    refine j_iload_n X 0 rfl rfl dX8_held_9 ?_
    refine j_iload_n X 2 rfl rfl dX8_held_10 ?_
    refine j_icmp_le X 18 (by decide) dX8_held_11 (fun c_2 => ?_) (fun c_2 => ?_)
    · have qc_2 := ti_le (a := v.toInt) (b := 99) rfl (by decide) c_2
      refine j_iload_n X 0 rfl rfl dX8_held_18 ?_
      exact j_iret X hr hlocks dX8_held_19 (⟨by unfold clampI; rw [if_neg (Int32.not_lt.mpr c_1), if_neg (Int32.not_lt.mpr c_2)], rfl⟩)
    · have qc_2 := ti_nle (a := v.toInt) (b := 99) rfl (by decide) c_2
      refine j_iload_n X 2 rfl rfl dX8_held_14 ?_
      refine j_goto X 19 (by decide) dX8_held_15 ?_
      exact j_iret X hr hlocks dX8_held_19 (⟨by unfold clampI; rw [if_neg (Int32.not_lt.mpr c_1), if_pos (Int32.not_le.mp c_2)], rfl⟩)
  · have qc_1 := ti_nle (a := 0) (b := v.toInt) (by decide) rfl c_1
    refine j_iload_n X 1 rfl rfl dX8_held_5 ?_
    refine j_goto X 19 (by decide) dX8_held_6 ?_
    exact j_iret X hr hlocks dX8_held_19 (⟨by unfold clampI; rw [if_pos (Int32.not_le.mp c_1)], rfl⟩)
set_option maxRecDepth 100000 in
set_option maxHeartbeats 4000000 in
theorem c_lawOf0_0 (l : Launch) (D : va_G) (y : wY) (ad : Nat → Nat) (M : Mem) (hs : M 80 5 = (-1)) (a b c0 : Int32) : MI l D y ad yX8_lawOf (Cond.code yX8_lawOf cX8_lawOf 5 (some .int)) 1 M [.ref (ad 79), .int 0, .int a, .int b, .int c0] (fun r _ => 20 = r) := by
  refine MI_of (by decide) (Nat.le_of_ble_eq_true rfl) ?_
  intro p e s m args below meth c X hr hlocks
  refine j_lv (lv1 := [(0, .ref (ad 79)), (1, .int 0), (2, .int a), (3, .int b), (4, .int c0)]) [0, 1, 2, 3, 4] rfl ?_
  refine j_aload_n X 0 rfl rfl dX8_lawOf_0 ?_
  refine j_get X (by decide) (wE_8 _ rfl) rfl awF8 0 (by decide) aw_92 rfl (v := .ref (ad 80)) rfl dX8_lawOf_1 ?_
  refine j_iconst X (v := 5) (by decide) dX8_lawOf_4 ?_
  refine j_iload_n X 1 rfl rfl dX8_lawOf_5 ?_
  refine j_iadd X dX8_lawOf_6 ?_
  refine j_eqi (v := 5) (by decide) ?_
  refine j_iald X (by decide) rfl (by unfold vp_in; decide) dX8_lawOf_7 ?_
  refine j_eqi (v := (-1)) hs ?_
  refine j_if_lt X 27 (by decide) dX8_lawOf_8 (fun c_1 => ?_) (fun c_1 => False.elim (by revert c_1; decide))
  refine j_iload_n X 1 rfl rfl dX8_lawOf_27 ?_
  refine j_if_ne X 36 (by decide) dX8_lawOf_28 (fun c_2 => False.elim (by revert c_2; decide)) (fun c_2 => ?_)
  refine j_bipush X (v := 20) (by decide) dX8_lawOf_31 ?_
  refine j_goto X 43 (by decide) dX8_lawOf_33 ?_
  refine j_iconst X (v := 0) (by decide) dX8_lawOf_43 ?_
  refine j_bipush X (v := 99) (by decide) dX8_lawOf_44 ?_
  refine j_callSI X (nn := 3) (As := [.int 20, .int 0, .int 99]) (st := []) aw_250 (c_held0 l D y ad M 20) aw_249 aw_251 aw_5 (by decide +kernel) ⟨by decide, by decide⟩ rfl (Nat.le_of_ble_eq_true rfl) ⟨by decide, by decide⟩ dX8_lawOf_46 ?_
  rintro r_ M1_ ⟨rfl, rfl⟩
  exact j_iret X hr hlocks dX8_lawOf_49 (by decide)
set_option maxRecDepth 100000 in
set_option maxHeartbeats 4000000 in
theorem c_lawOf0_1 (l : Launch) (D : va_G) (y : wY) (ad : Nat → Nat) (M : Mem) (hs : M 80 6 = (-1)) (a b c0 : Int32) : MI l D y ad yX8_lawOf (Cond.code yX8_lawOf cX8_lawOf 5 (some .int)) 1 M [.ref (ad 79), .int 1, .int a, .int b, .int c0] (fun r _ => clampI (9 - a / 11) = r) := by
  refine MI_of (by decide) (Nat.le_of_ble_eq_true rfl) ?_
  intro p e s m args below meth c X hr hlocks
  refine j_lv (lv1 := [(0, .ref (ad 79)), (1, .int 1), (2, .int a), (3, .int b), (4, .int c0)]) [0, 1, 2, 3, 4] rfl ?_
  refine j_aload_n X 0 rfl rfl dX8_lawOf_0 ?_
  refine j_get X (by decide) (wE_8 _ rfl) rfl awF8 0 (by decide) aw_92 rfl (v := .ref (ad 80)) rfl dX8_lawOf_1 ?_
  refine j_iconst X (v := 5) (by decide) dX8_lawOf_4 ?_
  refine j_iload_n X 1 rfl rfl dX8_lawOf_5 ?_
  refine j_iadd X dX8_lawOf_6 ?_
  refine j_eqi (v := 6) (by decide) ?_
  refine j_iald X (by decide) rfl (by unfold vp_in; decide) dX8_lawOf_7 ?_
  refine j_eqi (v := (-1)) hs ?_
  refine j_if_lt X 27 (by decide) dX8_lawOf_8 (fun c_1 => ?_) (fun c_1 => False.elim (by revert c_1; decide))
  refine j_iload_n X 1 rfl rfl dX8_lawOf_27 ?_
  refine j_if_ne X 36 (by decide) dX8_lawOf_28 (fun c_2 => ?_) (fun c_2 => False.elim (by revert c_2; decide))
  refine j_bipush X (v := 9) (by decide) dX8_lawOf_36 ?_
  refine j_iload_n X 2 rfl rfl dX8_lawOf_38 ?_
  refine j_bipush X (v := 11) (by decide) dX8_lawOf_39 ?_
  refine j_idiv X (by decide) dX8_lawOf_41 ?_
  refine j_isub X dX8_lawOf_42 ?_
  refine j_iconst X (v := 0) (by decide) dX8_lawOf_43 ?_
  refine j_bipush X (v := 99) (by decide) dX8_lawOf_44 ?_
  refine j_callSI X (nn := 3) (As := [.int (9 - (a / 11)), .int 0, .int 99]) (st := []) aw_250 (c_held0 l D y ad M (9 - (a / 11))) aw_249 aw_251 aw_5 (by decide +kernel) ⟨by decide, by decide⟩ rfl (Nat.le_of_ble_eq_true rfl) ⟨by decide, by decide⟩ dX8_lawOf_46 ?_
  rintro r_ M1_ ⟨rfl, rfl⟩
  exact j_iret X hr hlocks dX8_lawOf_49 rfl
set_option maxRecDepth 100000 in
set_option maxHeartbeats 4000000 in
theorem c0_X8_law (l : Launch) (D : va_G) (y : wY) (ad : Nat → Nat) (M : Mem) (hz : Z1 M) (u a b g : Int32) : MI l D y ad yX8_law (Cond.code yX8_law cX8_law 5 (some .int)) 6 M [.ref (ad 79), .int u, .int a, .int b, .int g] (fun r _ => sp_law u a b g = r) := by
  refine MI_of (by decide) (Nat.le_of_ble_eq_true rfl) ?_
  intro p e s m args below meth c X hr hlocks
  refine j_lv (lv1 := [(0, .ref (ad 79)), (1, .int u), (2, .int a), (3, .int b), (4, .int g)]) [0, 1, 2, 3, 4] rfl ?_
  refine j_iload_n X 1 rfl rfl dX8_law_0 ?_
  refine j_iconst X (v := 0) (by decide) dX8_law_1 ?_
  refine j_iconst X (v := 1) (by decide) dX8_law_2 ?_
  refine j_callSI X (nn := 3) (As := [.int u, .int 0, .int 1]) (st := []) aw_134 (c_X8_in l D y ad M u 0 1 0 1 (by decide) (by decide)) aw_133 aw_135 aw_5 (by decide +kernel) ⟨by decide, by decide⟩ rfl (Nat.le_of_ble_eq_true rfl) ⟨by decide, by decide⟩ dX8_law_3 ?_
  rintro r_ M1_ (⟨rfl, rfl, h_1⟩ | ⟨rfl, rfl, h_1⟩)
  · refine j_if_eq X 21 (by decide) dX8_law_6 (fun c_2 => False.elim (by revert c_2; decide)) (fun c_2 => ?_)
    rcases is_0_1 h_1 with rfl | rfl
    · refine j_aload_n X 0 rfl rfl dX8_law_9 ?_
      refine j_iload_n X 1 rfl rfl dX8_law_10 ?_
      refine j_iload_n X 2 rfl rfl dX8_law_11 ?_
      refine j_iload_n X 3 rfl rfl dX8_law_12 ?_
      refine j_iload X 4 rfl dX8_law_13 ?_
      refine j_callVI X (nn := 4) (As := [.int 0, .int a, .int b, .int g]) (st := []) (ci := 8) (by decide) (wE_8 _ rfl) rfl aw_239 aw_240 (c_lawOf0_0 l D y ad M hz.2.2.2.2.2.1 a b g) aw_238 aw_241 aw_5 (by decide +kernel) ⟨by decide, by decide⟩ rfl (Nat.le_of_ble_eq_true rfl) ⟨by decide, by decide⟩ dX8_law_15 ?_
      rintro r_ M1_ rfl
      refine j_goto X 27 (by decide) dX8_law_18 ?_
      exact j_iret X hr hlocks dX8_law_27 (by unfold sp_law; rw [if_pos (by decide), if_pos (by decide)])
    · refine j_aload_n X 0 rfl rfl dX8_law_9 ?_
      refine j_iload_n X 1 rfl rfl dX8_law_10 ?_
      refine j_iload_n X 2 rfl rfl dX8_law_11 ?_
      refine j_iload_n X 3 rfl rfl dX8_law_12 ?_
      refine j_iload X 4 rfl dX8_law_13 ?_
      refine j_callVI X (nn := 4) (As := [.int 1, .int a, .int b, .int g]) (st := []) (ci := 8) (by decide) (wE_8 _ rfl) rfl aw_239 aw_240 (c_lawOf0_1 l D y ad M hz.2.2.2.2.2.2.1 a b g) aw_238 aw_241 aw_5 (by decide +kernel) ⟨by decide, by decide⟩ rfl (Nat.le_of_ble_eq_true rfl) ⟨by decide, by decide⟩ dX8_law_15 ?_
      rintro r_ M1_ rfl
      refine j_goto X 27 (by decide) dX8_law_18 ?_
      exact j_iret X hr hlocks dX8_law_27 (by unfold sp_law clampI; rw [if_pos (by decide), if_neg (by decide)])
  · refine j_if_eq X 21 (by decide) dX8_law_6 (fun c_3 => ?_) (fun c_3 => False.elim (by revert c_3; decide))
    refine j_aload_n X 0 rfl rfl dX8_law_21 ?_
    refine j_ldc X (v := (-1000000001)) aw_132 dX8_law_22 ?_
    refine j_callVI X (nn := 1) (As := [.int (-1000000001)]) (st := []) (ci := 8) (by decide) (wE_8 _ rfl) rfl aw_144 aw_145 (c_X8_errs l D y ad M (-1000000001) 1 (by decide) (by decide)) aw_143 aw_146 aw_5 (by decide +kernel) ⟨by decide, by decide⟩ rfl (Nat.le_of_ble_eq_true rfl) ⟨by decide, by decide⟩ dX8_law_24 ?_
    rintro r_ M1_ ⟨rfl, rfl⟩
    exact j_iret X hr hlocks dX8_law_27 (by unfold sp_law; (repeat' split) <;> first | rfl | omega | (exfalso; omega))
set_option maxRecDepth 100000 in
set_option maxHeartbeats 4000000 in
theorem c0_X8_days (l : Launch) (D : va_G) (y : wY) (ad : Nat → Nat) (M : Mem) (hz : Z1 M) (n : Int32) : MI l D y ad yX8_days (Cond.code yX8_days cX8_days 2 (some .int)) 6 M [.ref (ad 79), .int n] (fun r _ => sp_days n = r) := by
  refine MI_of (by decide) (Nat.le_of_ble_eq_true rfl) ?_
  intro p e s m args below meth c X hr hlocks
  refine j_lv (lv1 := [(0, .ref (ad 79)), (1, .int n)]) [0, 1] rfl ?_
  refine j_iload_n X 1 rfl rfl dX8_days_0 ?_
  refine j_iconst X (v := 1) (by decide) dX8_days_1 ?_
  refine j_bipush X (v := 60) (by decide) dX8_days_2 ?_
  refine j_callSI X (nn := 3) (As := [.int n, .int 1, .int 60]) (st := []) aw_134 (c_X8_in l D y ad M n 1 60 1 60 (by decide) (by decide)) aw_133 aw_135 aw_5 (by decide +kernel) ⟨by decide, by decide⟩ rfl (Nat.le_of_ble_eq_true rfl) ⟨by decide, by decide⟩ dX8_days_4 ?_
  rintro r_ M1_ (⟨rfl, rfl, h_1⟩ | ⟨rfl, rfl, h_1⟩)
  · refine j_if_ne X 17 (by decide) dX8_days_7 (fun c_2 => ?_) (fun c_2 => False.elim (by revert c_2; decide))
    obtain ⟨N, hN, rfl⟩ := nI_oft (x := n) (n := 60) (by omega) (by omega) (by decide)
    rw [nI_ti hN (by decide)] at h_1
    refine j_aload_n X 0 rfl rfl dX8_days_17 ?_
    refine j_get X (by decide) (wE_8 _ rfl) rfl awF8 0 (by decide) aw_92 rfl (v := .ref (ad 80)) rfl dX8_days_18 ?_
    refine j_iconst X (v := 0) (by decide) dX8_days_21 ?_
    refine j_iald X (by decide) rfl (by unfold vp_in; decide) dX8_days_22 ?_
    refine j_eqi (v := 0) hz.1 ?_
    refine j_iload_n X 1 rfl rfl dX8_days_23 ?_
    refine j_iadd X dX8_days_24 ?_
    refine j_eqi (v := (nI N)) (Int32.zero_add _) ?_
    refine j_sipush X (v := 9999) (by decide) dX8_days_25 ?_
    refine j_icmp_le X 38 (by decide) dX8_days_28 (fun c_3 => ?_) (fun c_3 => False.elim (c_3 (show nI N ≤ nI 9999 from nI_le (by omega) (by decide))))
    refine j_aload_n X 0 rfl rfl dX8_days_38 ?_
    refine j_iload_n X 1 rfl rfl dX8_days_39 ?_
    refine j_callVV X (nn := 1) (As := [.int (nI N)]) (st := []) (ci := 8) (by decide) (wE_8 _ rfl) rfl aw_482 aw_483 (c_passes0 l D y ad M N (by omega) hz.2.2.1) aw_481 aw_484 aw_5 (by decide +kernel) ⟨by decide, by decide⟩ rfl (Nat.le_of_ble_eq_true rfl) ⟨by decide, by decide⟩ dX8_days_40 ?_
    rintro M_5 s_4
    refine j_aload_n X 0 rfl rfl dX8_days_43 ?_
    refine j_callVI X (nn := 0) (As := []) (st := []) (ci := 8) (by decide) (wE_8 _ rfl) rfl aw_506 aw_507 (c_overSet0 l D y ad M_5 ((s_4 80 2 rfl).trans hz.2.2.1)) aw_505 aw_508 aw_5 (by decide +kernel) ⟨by decide, by decide⟩ rfl (Nat.le_of_ble_eq_true rfl) ⟨by decide, by decide⟩ dX8_days_44 ?_
    rintro r_ M1_ ⟨rfl, rfl⟩
    refine j_callSI X (nn := 1) (As := [.int 0]) (st := []) aw_510 (c_bits0 l D y ad M_5) aw_509 aw_511 aw_5 (by decide +kernel) ⟨by decide, by decide⟩ rfl (Nat.le_of_ble_eq_true rfl) ⟨by decide, by decide⟩ dX8_days_47 ?_
    rintro r_ M1_ ⟨rfl, rfl⟩
    exact j_iret X hr hlocks dX8_days_50 (by unfold sp_days; rw [nI_ti hN (by decide)]; (repeat' split) <;> first | rfl | omega | (exfalso; omega))
  · refine j_if_ne X 17 (by decide) dX8_days_7 (fun c_6 => False.elim (by revert c_6; decide)) (fun c_6 => ?_)
    refine j_aload_n X 0 rfl rfl dX8_days_10 ?_
    refine j_ldc X (v := (-1000000001)) aw_132 dX8_days_11 ?_
    refine j_callVI X (nn := 1) (As := [.int (-1000000001)]) (st := []) (ci := 8) (by decide) (wE_8 _ rfl) rfl aw_144 aw_145 (c_X8_errs l D y ad M (-1000000001) 1 (by decide) (by decide)) aw_143 aw_146 aw_5 (by decide +kernel) ⟨by decide, by decide⟩ rfl (Nat.le_of_ble_eq_true rfl) ⟨by decide, by decide⟩ dX8_days_13 ?_
    rintro r_ M1_ ⟨rfl, rfl⟩
    exact j_iret X hr hlocks dX8_days_16 (by unfold sp_days; (repeat' split) <;> first | rfl | omega | (exfalso; omega))
set_option maxRecDepth 100000 in
set_option maxHeartbeats 4000000 in
theorem c_drawn (l : Launch) (D : va_G) (y : wY) (ad : Nat → Nat) (M : Mem)  : MI l D y ad yX8_drawn (Cond.code yX8_drawn cX8_drawn 2 (some .int)) 0 M [.ref (ad 79), .int 10] (fun r M' => sm (fun b k => b == 80 && k == 1) M M') := by
  refine MI_of (by decide) (Nat.le_of_ble_eq_true rfl) ?_
  intro p e s m args below meth c X hr hlocks
  refine j_lv (lv1 := [(0, .ref (ad 79)), (1, .int 10)]) [0, 1] rfl ?_
  refine j_aload_n X 0 rfl rfl dX8_drawn_0 ?_
  refine j_get X (by decide) (wE_8 _ rfl) rfl awF8 0 (by decide) aw_92 rfl (v := .ref (ad 80)) rfl dX8_drawn_1 ?_
  refine j_iconst X (v := 1) (by decide) dX8_drawn_4 ?_
  refine j_aload_n X 0 rfl rfl dX8_drawn_5 ?_
  refine j_get X (by decide) (wE_8 _ rfl) rfl awF8 0 (by decide) aw_92 rfl (v := .ref (ad 80)) rfl dX8_drawn_6 ?_
  refine j_iconst X (v := 1) (by decide) dX8_drawn_9 ?_
  refine j_iald X (by decide) rfl (by unfold vp_in; decide) dX8_drawn_10 ?_
  refine j_eqi (v := M 80 1) rfl ?_
  refine j_ldc X (v := 1103515245) aw_528 dX8_drawn_11 ?_
  refine j_imul X dX8_drawn_13 ?_
  refine j_sipush X (v := 12345) (by decide) dX8_drawn_14 ?_
  refine j_iadd X dX8_drawn_17 ?_
  refine j_iast X (by decide) rfl (by unfold vp_in; decide) dX8_drawn_18 ?_
  refine j_eqM (M1 := (up M 80 1 (((M 80 1) * 1103515245) + 12345))) rfl ?_
  refine j_aload_n X 0 rfl rfl dX8_drawn_19 ?_
  refine j_get X (by decide) (wE_8 _ rfl) rfl awF8 0 (by decide) aw_92 rfl (v := .ref (ad 80)) rfl dX8_drawn_20 ?_
  refine j_iconst X (v := 1) (by decide) dX8_drawn_23 ?_
  refine j_iald X (by decide) rfl (by unfold vp_in; decide) dX8_drawn_24 ?_
  refine j_eqi (v := (((M 80 1) * 1103515245) + 12345)) (by simp [up]) ?_
  refine j_bipush X (v := 8) (by decide) dX8_drawn_25 ?_
  refine j_iushr X dX8_drawn_27 ?_
  refine j_iload_n X 1 rfl rfl dX8_drawn_28 ?_
  refine j_irem X (by decide) dX8_drawn_29 ?_
  exact j_iret X hr hlocks dX8_drawn_30 (sm_up sm_rf rfl)
set_option maxRecDepth 100000 in
set_option maxHeartbeats 4000000 in
theorem c0_X8_loose (l : Launch) (D : va_G) (y : wY) (ad : Nat → Nat) (M : Mem) (hz : Z1 M) (n : Int32) : MI l D y ad yX8_loose (Cond.code yX8_loose cX8_loose 3 (some .int)) 6 M [.ref (ad 79), .int n] (fun r _ => sp_loose n = r) := by
  refine MI_of (by decide) (Nat.le_of_ble_eq_true rfl) ?_
  intro p e s m args below meth c X hr hlocks
  refine j_lv (lv1 := [(0, .ref (ad 79)), (1, .int n)]) [0, 1] rfl ?_
  refine j_iload_n X 1 rfl rfl dX8_loose_0 ?_
  refine j_iconst X (v := 1) (by decide) dX8_loose_1 ?_
  refine j_bipush X (v := 40) (by decide) dX8_loose_2 ?_
  refine j_callSI X (nn := 3) (As := [.int n, .int 1, .int 40]) (st := []) aw_134 (c_X8_in l D y ad M n 1 40 1 40 (by decide) (by decide)) aw_133 aw_135 aw_5 (by decide +kernel) ⟨by decide, by decide⟩ rfl (Nat.le_of_ble_eq_true rfl) ⟨by decide, by decide⟩ dX8_loose_4 ?_
  rintro r_ M1_ (⟨rfl, rfl, h_1⟩ | ⟨rfl, rfl, h_1⟩)
  · refine j_if_ne X 17 (by decide) dX8_loose_7 (fun c_2 => ?_) (fun c_2 => False.elim (by revert c_2; decide))
    obtain ⟨N, hN, rfl⟩ := nI_oft (x := n) (n := 40) (by omega) (by omega) (by decide)
    rw [nI_ti hN (by decide)] at h_1
    refine j_aload_n X 0 rfl rfl dX8_loose_17 ?_
    refine j_get X (by decide) (wE_8 _ rfl) rfl awF8 0 (by decide) aw_92 rfl (v := .ref (ad 80)) rfl dX8_loose_18 ?_
    refine j_iconst X (v := 0) (by decide) dX8_loose_21 ?_
    refine j_iald X (by decide) rfl (by unfold vp_in; decide) dX8_loose_22 ?_
    refine j_eqi (v := 0) hz.1 ?_
    refine j_iload_n X 1 rfl rfl dX8_loose_23 ?_
    refine j_iadd X dX8_loose_24 ?_
    refine j_eqi (v := (nI N)) (Int32.zero_add _) ?_
    refine j_sipush X (v := 9999) (by decide) dX8_loose_25 ?_
    refine j_icmp_le X 38 (by decide) dX8_loose_28 (fun c_3 => ?_) (fun c_3 => False.elim (c_3 (show nI N ≤ nI 9999 from nI_le (by omega) (by decide))))
    refine j_iconst X (v := 0) (by decide) dX8_loose_38 ?_
    refine j_istore_n X [(2, .int 0), (0, .ref (ad 79)), (1, .int (nI N))] rfl (by decide) rfl dX8_loose_39 ?_
    have loop4 : ∀ (n_4 i_4 : Nat) (M4 : Mem), i_4 ≤ N → N - i_4 < n_4 → sm (fun b k => b == 80 && (k == 7 || k == 0 || k == 8 || k == 1)) M M4 → J p l e (rmN 6) s m args below meth c 0 0 (QI (fun r _ => sp_loose (nI N) = r) D y ad M s args below) D y ad (va_A (PL y ad M) s.heap.size) 3 M4 40 [(2, .int (nI i_4)), (0, .ref (ad 79)), (1, .int (nI N))] [] := by
      intro n_4
      induction n_4 with
      | zero => intro i_4 M4 h1 h2; exact absurd h2 (by omega)
      | succ n_4 ih4 =>
        intro i_4 M4 h1i_4 h2i_4 hs4
        refine j_iload_n X 0 rfl rfl dX8_loose_40 ?_
        refine j_iload_n X 2 rfl rfl dX8_loose_41 ?_
        refine j_icmp_ge X 69 (by decide) dX8_loose_42 (fun c_5 => ?_) (fun c_5 => ?_)
        · have c_5 := (nI_leI (by omega) (by omega)).mp (show nI (N) ≤ nI i_4 from c_5)
          refine j_aload_n X 1 rfl rfl dX8_loose_69 ?_
          refine j_callVI X (nn := 0) (As := []) (st := []) (ci := 8) (by decide) (wE_8 _ rfl) rfl aw_506 aw_507 (c_overSet0 l D y ad M4 ((hs4 80 2 rfl).trans hz.2.2.1)) aw_505 aw_508 aw_5 (by decide +kernel) ⟨by decide, by decide⟩ rfl (Nat.le_of_ble_eq_true rfl) ⟨by decide, by decide⟩ dX8_loose_70 ?_
          rintro r_ M1_ ⟨rfl, rfl⟩
          refine j_callSI X (nn := 1) (As := [.int 0]) (st := []) aw_510 (c_bits0 l D y ad M4) aw_509 aw_511 aw_5 (by decide +kernel) ⟨by decide, by decide⟩ rfl (Nat.le_of_ble_eq_true rfl) ⟨by decide, by decide⟩ dX8_loose_73 ?_
          rintro r_ M1_ ⟨rfl, rfl⟩
          exact j_iret X hr hlocks dX8_loose_76 (by unfold sp_loose; rw [nI_ti hN (by decide)]; (repeat' split) <;> first | rfl | omega | (exfalso; omega))
        · have c_5 : i_4 < N := by
            rcases Nat.lt_or_ge i_4 (N) with g | g
            · exact g
            · exact absurd (show nI (N) ≤ nI i_4 from nI_le g (by omega)) c_5
          refine j_aload_n X 1 rfl rfl dX8_loose_45 ?_
          refine j_get X (by decide) (wE_8 _ rfl) rfl awF8 0 (by decide) aw_92 rfl (v := .ref (ad 80)) rfl dX8_loose_46 ?_
          refine j_bipush X (v := 8) (by decide) dX8_loose_49 ?_
          refine j_aload_n X 1 rfl rfl dX8_loose_51 ?_
          refine j_bipush X (v := 10) (by decide) dX8_loose_52 ?_
          refine j_callVI X (nn := 1) (As := [.int 10]) (st := [.int 8, .ref (ad 80)]) (ci := 8) (by decide) (wE_8 _ rfl) rfl aw_525 aw_526 (c_drawn l D y ad M4) aw_524 aw_527 aw_5 (by decide +kernel) ⟨by decide, by decide⟩ rfl (Nat.le_of_ble_eq_true rfl) ⟨by decide, by decide⟩ dX8_loose_54 ?_
          rintro r_ M_7 s_6
          refine j_iast X (by decide) rfl (by unfold vp_in; decide) dX8_loose_57 ?_
          refine j_eqM (M1 := (up M_7 80 8 r_)) rfl ?_
          refine j_aload_n X 1 rfl rfl dX8_loose_58 ?_
          refine j_iconst X (v := 1) (by decide) dX8_loose_59 ?_
          refine j_callVV X (nn := 1) (As := [.int 1]) (st := []) (ci := 8) (by decide) (wE_8 _ rfl) rfl aw_486 aw_487 (c_oneDay0_1 l D y ad (up M_7 80 8 r_) ((show _ = M_7 80 2 from by simp [up]).trans ((s_6 80 2 rfl).trans ((hs4 80 2 rfl).trans hz.2.2.1)))) aw_485 aw_488 aw_5 (by decide +kernel) ⟨by decide, by decide⟩ rfl (Nat.le_of_ble_eq_true rfl) ⟨by decide, by decide⟩ dX8_loose_60 ?_
          rintro M_9 s_8
          refine j_iinc X (v := (nI (i_4 + 1))) 0 [(2, .int (nI (i_4 + 1))), (0, .ref (ad 79)), (1, .int (nI N))] rfl (show nI i_4 + Int32.ofInt 1 = _ from nI_1 i_4) (by decide) rfl dX8_loose_63 ?_
          refine j_goto X 40 (by decide) dX8_loose_66 ?_
          refine j_lv (lv1 := [(2, .int (nI (i_4 + 1))), (0, .ref (ad 79)), (1, .int (nI N))]) [0, 1, 2] rfl ?_
          exact ih4 (i_4 + 1) _ (by omega) (by omega) (sm_tr (sm_up (sm_tr hs4 (sm_w s_6 (by intro b k hb; simp only [Bool.or_eq_false_iff, Bool.and_eq_false_iff, beq_eq_false_iff_ne, ne_eq, decide_eq_false_iff_not] at hb ⊢; omega))) rfl) (sm_w s_8 (by intro b k hb; simp only [Bool.or_eq_false_iff, Bool.and_eq_false_iff, beq_eq_false_iff_ne, ne_eq, decide_eq_false_iff_not] at hb ⊢; omega)))
    refine j_lv (lv1 := [(2, .int (nI 0)), (0, .ref (ad 79)), (1, .int (nI N))]) [0, 1, 2] rfl ?_
    exact loop4 (N + 1) 0 _ (by omega) (by omega) sm_rf
  · refine j_if_ne X 17 (by decide) dX8_loose_7 (fun c_10 => False.elim (by revert c_10; decide)) (fun c_10 => ?_)
    refine j_aload_n X 0 rfl rfl dX8_loose_10 ?_
    refine j_ldc X (v := (-1000000001)) aw_132 dX8_loose_11 ?_
    refine j_callVI X (nn := 1) (As := [.int (-1000000001)]) (st := []) (ci := 8) (by decide) (wE_8 _ rfl) rfl aw_144 aw_145 (c_X8_errs l D y ad M (-1000000001) 1 (by decide) (by decide)) aw_143 aw_146 aw_5 (by decide +kernel) ⟨by decide, by decide⟩ rfl (Nat.le_of_ble_eq_true rfl) ⟨by decide, by decide⟩ dX8_loose_13 ?_
    rintro r_ M1_ ⟨rfl, rfl⟩
    exact j_iret X hr hlocks dX8_loose_16 (by unfold sp_loose; (repeat' split) <;> first | rfl | omega | (exfalso; omega))
set_option maxRecDepth 100000 in
set_option maxHeartbeats 4000000 in
theorem c0_X8_ended (l : Launch) (D : va_G) (y : wY) (ad : Nat → Nat) (M : Mem) (hz : Z1 M) (n : Int32) : MI l D y ad yX8_ended (Cond.code yX8_ended cX8_ended 2 (some .int)) 6 M [.ref (ad 79), .int n] (fun r _ => sp_ended n = r) := by
  refine MI_of (by decide) (Nat.le_of_ble_eq_true rfl) ?_
  intro p e s m args below meth c X hr hlocks
  refine j_lv (lv1 := [(0, .ref (ad 79)), (1, .int n)]) [0, 1] rfl ?_
  refine j_iload_n X 1 rfl rfl dX8_ended_0 ?_
  refine j_iconst X (v := 0) (by decide) dX8_ended_1 ?_
  refine j_bipush X (v := 60) (by decide) dX8_ended_2 ?_
  refine j_callSI X (nn := 3) (As := [.int n, .int 0, .int 60]) (st := []) aw_134 (c_X8_in l D y ad M n 0 60 0 60 (by decide) (by decide)) aw_133 aw_135 aw_5 (by decide +kernel) ⟨by decide, by decide⟩ rfl (Nat.le_of_ble_eq_true rfl) ⟨by decide, by decide⟩ dX8_ended_4 ?_
  rintro r_ M1_ (⟨rfl, rfl, h_1⟩ | ⟨rfl, rfl, h_1⟩)
  · refine j_if_eq X 18 (by decide) dX8_ended_7 (fun c_2 => False.elim (by revert c_2; decide)) (fun c_2 => ?_)
    obtain ⟨N, hN, rfl⟩ := nI_oft (x := n) (n := 60) (by omega) (by omega) (by decide)
    rw [nI_ti hN (by decide)] at h_1
    refine j_aload_n X 0 rfl rfl dX8_ended_10 ?_
    refine j_iload_n X 1 rfl rfl dX8_ended_11 ?_
    refine j_callVI X (nn := 1) (As := [.int (nI N)]) (st := []) (ci := 8) (by decide) (wE_8 _ rfl) rfl aw_575 aw_576 (c_overBehind0 l D y ad M N (by omega) hz.2.2.1) aw_574 aw_577 aw_5 (by decide +kernel) ⟨by decide, by decide⟩ rfl (Nat.le_of_ble_eq_true rfl) ⟨by decide, by decide⟩ dX8_ended_12 ?_
    rintro r_ M_4 ⟨rfl, s_3⟩
    refine j_goto X 24 (by decide) dX8_ended_15 ?_
    exact j_iret X hr hlocks dX8_ended_24 (by unfold sp_ended; rw [nI_ti hN (by decide)]; (repeat' split) <;> first | rfl | omega | (exfalso; omega))
  · refine j_if_eq X 18 (by decide) dX8_ended_7 (fun c_5 => ?_) (fun c_5 => False.elim (by revert c_5; decide))
    refine j_aload_n X 0 rfl rfl dX8_ended_18 ?_
    refine j_ldc X (v := (-1000000001)) aw_132 dX8_ended_19 ?_
    refine j_callVI X (nn := 1) (As := [.int (-1000000001)]) (st := []) (ci := 8) (by decide) (wE_8 _ rfl) rfl aw_144 aw_145 (c_X8_errs l D y ad M (-1000000001) 1 (by decide) (by decide)) aw_143 aw_146 aw_5 (by decide +kernel) ⟨by decide, by decide⟩ rfl (Nat.le_of_ble_eq_true rfl) ⟨by decide, by decide⟩ dX8_ended_21 ?_
    rintro r_ M1_ ⟨rfl, rfl⟩
    exact j_iret X hr hlocks dX8_ended_24 (by unfold sp_ended; (repeat' split) <;> first | rfl | omega | (exfalso; omega))
set_option maxRecDepth 100000 in
set_option maxHeartbeats 4000000 in
theorem c0_X8_fee (l : Launch) (D : va_G) (y : wY) (ad : Nat → Nat) (M : Mem) (hz : Z1 M) (n : Int32) : MI l D y ad yX8_fee (Cond.code yX8_fee cX8_fee 3 (some .int)) 6 M [.ref (ad 79), .int n] (fun r _ => sp_fee n = r) := by
  refine MI_of (by decide) (Nat.le_of_ble_eq_true rfl) ?_
  intro p e s m args below meth c X hr hlocks
  refine j_lv (lv1 := [(0, .ref (ad 79)), (1, .int n)]) [0, 1] rfl ?_
  refine j_iload_n X 1 rfl rfl dX8_fee_0 ?_
  refine j_iconst X (v := 0) (by decide) dX8_fee_1 ?_
  refine j_bipush X (v := 60) (by decide) dX8_fee_2 ?_
  refine j_callSI X (nn := 3) (As := [.int n, .int 0, .int 60]) (st := []) aw_134 (c_X8_in l D y ad M n 0 60 0 60 (by decide) (by decide)) aw_133 aw_135 aw_5 (by decide +kernel) ⟨by decide, by decide⟩ rfl (Nat.le_of_ble_eq_true rfl) ⟨by decide, by decide⟩ dX8_fee_4 ?_
  rintro r_ M1_ (⟨rfl, rfl, h_1⟩ | ⟨rfl, rfl, h_1⟩)
  · refine j_if_ne X 17 (by decide) dX8_fee_7 (fun c_2 => ?_) (fun c_2 => False.elim (by revert c_2; decide))
    obtain ⟨N, hN, rfl⟩ := nI_oft (x := n) (n := 60) (by omega) (by omega) (by decide)
    rw [nI_ti hN (by decide)] at h_1
    refine j_aload_n X 0 rfl rfl dX8_fee_17 ?_
    refine j_aload_n X 0 rfl rfl dX8_fee_18 ?_
    refine j_get X (by decide) (wE_8 _ rfl) rfl awF8 0 (by decide) aw_92 rfl (v := .ref (ad 80)) rfl dX8_fee_19 ?_
    refine j_aload_n X 0 rfl rfl dX8_fee_22 ?_
    refine j_get X (by decide) (wE_8 _ rfl) rfl awF8 2 (by decide) aw_94 rfl (v := .ref (ad 82)) rfl dX8_fee_23 ?_
    refine j_callVV X (nn := 2) (As := [.ref (ad 80), .ref (ad 82)]) (st := []) (ci := 8) (by decide) (wE_8 _ rfl) rfl aw_553 aw_554 (c_moveAll_80_82 l D y ad M) aw_552 aw_555 aw_5 (by decide +kernel) ⟨by decide, by decide⟩ rfl (Nat.le_of_ble_eq_true rfl) ⟨by decide, by decide⟩ dX8_fee_26 ?_
    rintro M_4 ⟨s_3, s_3_v⟩
    refine j_aload_n X 0 rfl rfl dX8_fee_29 ?_
    refine j_iload_n X 1 rfl rfl dX8_fee_30 ?_
    refine j_callVV X (nn := 1) (As := [.int (nI N)]) (st := []) (ci := 8) (by decide) (wE_8 _ rfl) rfl aw_482 aw_483 (c_passes0 l D y ad M_4 N (by omega) ((s_3 80 2 rfl).trans hz.2.2.1)) aw_481 aw_484 aw_5 (by decide +kernel) ⟨by decide, by decide⟩ rfl (Nat.le_of_ble_eq_true rfl) ⟨by decide, by decide⟩ dX8_fee_31 ?_
    rintro M_6 s_5
    refine j_aload_n X 0 rfl rfl dX8_fee_34 ?_
    refine j_get X (by decide) (wE_8 _ rfl) rfl awF8 0 (by decide) aw_92 rfl (v := .ref (ad 80)) rfl dX8_fee_35 ?_
    refine j_bipush X (v := 10) (by decide) dX8_fee_38 ?_
    refine j_iald X (by decide) rfl (by unfold vp_in; decide) dX8_fee_40 ?_
    refine j_eqi (v := 0) ((s_5 80 10 rfl).trans ((s_3 80 10 rfl).trans hz.2.2.2.2.2.2.2.2.2.2.1)) ?_
    refine j_aload_n X 0 rfl rfl dX8_fee_41 ?_
    refine j_get X (by decide) (wE_8 _ rfl) rfl awF8 2 (by decide) aw_94 rfl (v := .ref (ad 82)) rfl dX8_fee_42 ?_
    refine j_bipush X (v := 10) (by decide) dX8_fee_45 ?_
    refine j_iald X (by decide) rfl (by unfold vp_in; decide) dX8_fee_47 ?_
    refine j_eqi (v := 0) ((s_5 82 10 rfl).trans ((s_3_v 10 (by decide)).trans hz.2.2.2.2.2.2.2.2.2.2.1)) ?_
    refine j_isub X dX8_fee_48 ?_
    refine j_eqi (v := 0) (by decide) ?_
    refine j_istore_n X [(2, .int 0), (0, .ref (ad 79)), (1, .int (nI N))] rfl (by decide) rfl dX8_fee_49 ?_
    refine j_aload_n X 1 rfl rfl dX8_fee_50 ?_
    refine j_aload_n X 1 rfl rfl dX8_fee_51 ?_
    refine j_get X (by decide) (wE_8 _ rfl) rfl awF8 2 (by decide) aw_94 rfl (v := .ref (ad 82)) rfl dX8_fee_52 ?_
    refine j_aload_n X 1 rfl rfl dX8_fee_55 ?_
    refine j_get X (by decide) (wE_8 _ rfl) rfl awF8 0 (by decide) aw_92 rfl (v := .ref (ad 80)) rfl dX8_fee_56 ?_
    refine j_callVV X (nn := 2) (As := [.ref (ad 82), .ref (ad 80)]) (st := []) (ci := 8) (by decide) (wE_8 _ rfl) rfl aw_553 aw_554 (c_moveAll_82_80 l D y ad M_6) aw_552 aw_555 aw_5 (by decide +kernel) ⟨by decide, by decide⟩ rfl (Nat.le_of_ble_eq_true rfl) ⟨by decide, by decide⟩ dX8_fee_59 ?_
    rintro M_8 ⟨s_7, s_7_v⟩
    refine j_iload_n X 0 rfl rfl dX8_fee_62 ?_
    exact j_iret X hr hlocks dX8_fee_63 (by unfold sp_fee; rw [nI_ti hN (by decide)]; (repeat' split) <;> first | rfl | omega | (exfalso; omega))
  · refine j_if_ne X 17 (by decide) dX8_fee_7 (fun c_9 => False.elim (by revert c_9; decide)) (fun c_9 => ?_)
    refine j_aload_n X 0 rfl rfl dX8_fee_10 ?_
    refine j_ldc X (v := (-1000000001)) aw_132 dX8_fee_11 ?_
    refine j_callVI X (nn := 1) (As := [.int (-1000000001)]) (st := []) (ci := 8) (by decide) (wE_8 _ rfl) rfl aw_144 aw_145 (c_X8_errs l D y ad M (-1000000001) 1 (by decide) (by decide)) aw_143 aw_146 aw_5 (by decide +kernel) ⟨by decide, by decide⟩ rfl (Nat.le_of_ble_eq_true rfl) ⟨by decide, by decide⟩ dX8_fee_13 ?_
    rintro r_ M1_ ⟨rfl, rfl⟩
    exact j_iret X hr hlocks dX8_fee_16 (by unfold sp_fee; (repeat' split) <;> first | rfl | omega | (exfalso; omega))
set_option maxRecDepth 100000 in
set_option maxHeartbeats 4000000 in
theorem c0_X8_free (l : Launch) (D : va_G) (y : wY) (ad : Nat → Nat) (M : Mem) (hz : Z1 M) : MI l D y ad yX8_free (Cond.code yX8_free cX8_free 3 (some .int)) 6 M [.ref (ad 79)] (fun r _ => sp_free = r) := by
  refine MI_of (by decide) (Nat.le_of_ble_eq_true rfl) ?_
  intro p e s m args below meth c X hr hlocks
  refine j_lv (lv1 := [(0, .ref (ad 79))]) [0] rfl ?_
  refine j_iconst X (v := 0) (by decide) dX8_free_0 ?_
  refine j_istore_n X [(1, .int 0), (0, .ref (ad 79))] rfl (by decide) rfl dX8_free_1 ?_
  refine j_iconst X (v := 0) (by decide) dX8_free_2 ?_
  refine j_istore_n X [(2, .int 0), (1, .int 0), (0, .ref (ad 79))] rfl (by decide) rfl dX8_free_3 ?_
  refine j_iload_n X 0 rfl rfl dX8_free_4 ?_
  refine j_aload_n X 2 rfl rfl dX8_free_5 ?_
  refine j_get X (by decide) (wE_8 _ rfl) rfl awF8 0 (by decide) aw_92 rfl (v := .ref (ad 80)) rfl dX8_free_6 ?_
  refine j_iconst X (v := 2) (by decide) dX8_free_9 ?_
  refine j_iald X (by decide) rfl (by unfold vp_in; decide) dX8_free_10 ?_
  refine j_eqi (v := 0) hz.2.2.1 ?_
  refine j_icmp_ge X 46 (by decide) dX8_free_11 (fun c_1 => ?_) (fun c_1 => False.elim (by revert c_1; decide))
  refine j_iload_n X 1 rfl rfl dX8_free_46 ?_
  exact j_iret X hr hlocks dX8_free_47 (by unfold sp_free; (repeat' split) <;> first | rfl | omega | (exfalso; omega))
set_option maxRecDepth 100000 in
set_option maxHeartbeats 4000000 in
theorem c0_X8_first (l : Launch) (D : va_G) (y : wY) (ad : Nat → Nat) (M : Mem) (hz : Z1 M) (n what : Int32) : MI l D y ad yX8_first (Cond.code yX8_first cX8_first 7 (some .int)) 6 M [.ref (ad 79), .int n, .int what] (fun r _ => sp_first n what = r) := by
  refine MI_of (by decide) (Nat.le_of_ble_eq_true rfl) ?_
  intro p e s m args below meth c X hr hlocks
  refine j_lv (lv1 := [(0, .ref (ad 79)), (1, .int n), (2, .int what)]) [0, 1, 2] rfl ?_
  refine j_iload_n X 1 rfl rfl dX8_first_0 ?_
  refine j_iconst X (v := 0) (by decide) dX8_first_1 ?_
  refine j_bipush X (v := 60) (by decide) dX8_first_2 ?_
  refine j_callSI X (nn := 3) (As := [.int n, .int 0, .int 60]) (st := []) aw_134 (c_X8_in l D y ad M n 0 60 0 60 (by decide) (by decide)) aw_133 aw_135 aw_5 (by decide +kernel) ⟨by decide, by decide⟩ rfl (Nat.le_of_ble_eq_true rfl) ⟨by decide, by decide⟩ dX8_first_4 ?_
  rintro r_ M1_ (⟨rfl, rfl, h_1⟩ | ⟨rfl, rfl, h_1⟩)
  · refine j_if_eq X 19 (by decide) dX8_first_7 (fun c_2 => False.elim (by revert c_2; decide)) (fun c_2 => ?_)
    refine j_iload_n X 2 rfl rfl dX8_first_10 ?_
    refine j_iconst X (v := 0) (by decide) dX8_first_11 ?_
    refine j_iconst X (v := 1) (by decide) dX8_first_12 ?_
    refine j_callSI X (nn := 3) (As := [.int what, .int 0, .int 1]) (st := []) aw_134 (c_X8_in l D y ad M what 0 1 0 1 (by decide) (by decide)) aw_133 aw_135 aw_5 (by decide +kernel) ⟨by decide, by decide⟩ rfl (Nat.le_of_ble_eq_true rfl) ⟨by decide, by decide⟩ dX8_first_13 ?_
    rintro r_ M1_ (⟨rfl, rfl, h_3⟩ | ⟨rfl, rfl, h_3⟩)
    · refine j_if_ne X 26 (by decide) dX8_first_16 (fun c_4 => ?_) (fun c_4 => False.elim (by revert c_4; decide))
      refine j_aload_n X 0 rfl rfl dX8_first_26 ?_
      refine j_get X (by decide) (wE_8 _ rfl) rfl awF8 0 (by decide) aw_92 rfl (v := .ref (ad 80)) rfl dX8_first_27 ?_
      refine j_iconst X (v := 2) (by decide) dX8_first_30 ?_
      refine j_iald X (by decide) rfl (by unfold vp_in; decide) dX8_first_31 ?_
      refine j_eqi (v := 0) hz.2.2.1 ?_
      refine j_if_ne X 42 (by decide) dX8_first_32 (fun c_5 => False.elim (by revert c_5; decide)) (fun c_5 => ?_)
      refine j_aload_n X 0 rfl rfl dX8_first_35 ?_
      refine j_ldc X (v := (-1000000002)) aw_565 dX8_first_36 ?_
      refine j_callVI X (nn := 1) (As := [.int (-1000000002)]) (st := []) (ci := 8) (by decide) (wE_8 _ rfl) rfl aw_144 aw_145 (c_X8_errs l D y ad M (-1000000002) 2 (by decide) (by decide)) aw_143 aw_146 aw_5 (by decide +kernel) ⟨by decide, by decide⟩ rfl (Nat.le_of_ble_eq_true rfl) ⟨by decide, by decide⟩ dX8_first_38 ?_
      rintro r_ M1_ ⟨rfl, rfl⟩
      exact j_iret X hr hlocks dX8_first_41 (by unfold sp_first; (repeat' split) <;> first | rfl | omega | (exfalso; omega))
    · refine j_if_ne X 26 (by decide) dX8_first_16 (fun c_6 => False.elim (by revert c_6; decide)) (fun c_6 => ?_)
      refine j_aload_n X 0 rfl rfl dX8_first_19 ?_
      refine j_ldc X (v := (-1000000001)) aw_132 dX8_first_20 ?_
      refine j_callVI X (nn := 1) (As := [.int (-1000000001)]) (st := []) (ci := 8) (by decide) (wE_8 _ rfl) rfl aw_144 aw_145 (c_X8_errs l D y ad M (-1000000001) 1 (by decide) (by decide)) aw_143 aw_146 aw_5 (by decide +kernel) ⟨by decide, by decide⟩ rfl (Nat.le_of_ble_eq_true rfl) ⟨by decide, by decide⟩ dX8_first_22 ?_
      rintro r_ M1_ ⟨rfl, rfl⟩
      exact j_iret X hr hlocks dX8_first_25 (by unfold sp_first; (repeat' split) <;> first | rfl | omega | (exfalso; omega))
  · refine j_if_eq X 19 (by decide) dX8_first_7 (fun c_7 => ?_) (fun c_7 => False.elim (by revert c_7; decide))
    refine j_aload_n X 0 rfl rfl dX8_first_19 ?_
    refine j_ldc X (v := (-1000000001)) aw_132 dX8_first_20 ?_
    refine j_callVI X (nn := 1) (As := [.int (-1000000001)]) (st := []) (ci := 8) (by decide) (wE_8 _ rfl) rfl aw_144 aw_145 (c_X8_errs l D y ad M (-1000000001) 1 (by decide) (by decide)) aw_143 aw_146 aw_5 (by decide +kernel) ⟨by decide, by decide⟩ rfl (Nat.le_of_ble_eq_true rfl) ⟨by decide, by decide⟩ dX8_first_22 ?_
    rintro r_ M1_ ⟨rfl, rfl⟩
    exact j_iret X hr hlocks dX8_first_25 (by unfold sp_first; (repeat' split) <;> first | rfl | omega | (exfalso; omega))
set_option maxRecDepth 100000 in
set_option maxHeartbeats 4000000 in
theorem c0_X8_off (l : Launch) (D : va_G) (y : wY) (ad : Nat → Nat) (M : Mem) (hz : Z1 M) (n : Int32) : MI l D y ad yX8_off (Cond.code yX8_off cX8_off 3 (some .int)) 6 M [.ref (ad 79), .int n] (fun r _ => sp_off n = r) := by
  refine MI_of (by decide) (Nat.le_of_ble_eq_true rfl) ?_
  intro p e s m args below meth c X hr hlocks
  refine j_lv (lv1 := [(0, .ref (ad 79)), (1, .int n)]) [0, 1] rfl ?_
  refine j_iload_n X 1 rfl rfl dX8_off_0 ?_
  refine j_iconst X (v := 0) (by decide) dX8_off_1 ?_
  refine j_bipush X (v := 60) (by decide) dX8_off_2 ?_
  refine j_callSI X (nn := 3) (As := [.int n, .int 0, .int 60]) (st := []) aw_134 (c_X8_in l D y ad M n 0 60 0 60 (by decide) (by decide)) aw_133 aw_135 aw_5 (by decide +kernel) ⟨by decide, by decide⟩ rfl (Nat.le_of_ble_eq_true rfl) ⟨by decide, by decide⟩ dX8_off_4 ?_
  rintro r_ M1_ (⟨rfl, rfl, h_1⟩ | ⟨rfl, rfl, h_1⟩)
  · refine j_if_ne X 17 (by decide) dX8_off_7 (fun c_2 => ?_) (fun c_2 => False.elim (by revert c_2; decide))
    obtain ⟨N, hN, rfl⟩ := nI_oft (x := n) (n := 60) (by omega) (by omega) (by decide)
    rw [nI_ti hN (by decide)] at h_1
    rcases N with _ | N
    · refine j_iload_n X 1 rfl rfl dX8_off_17 ?_
      refine j_if_ne X 23 (by decide) dX8_off_18 (fun c_3 => False.elim (c_3 rfl)) (fun c_3 => ?_)
      refine j_iconst X (v := 0) (by decide) dX8_off_21 ?_
      exact j_iret X hr hlocks dX8_off_22 (by unfold sp_off; rw [nI_ti hN (by decide)]; (repeat' split) <;> first | rfl | omega | (exfalso; omega))
    · refine j_iload_n X 1 rfl rfl dX8_off_17 ?_
      refine j_if_ne X 23 (by decide) dX8_off_18 (fun c_4 => ?_) (fun c_4 => False.elim (nI_ne0 (by omega) (by omega) c_4))
      refine j_aload_n X 0 rfl rfl dX8_off_23 ?_
      refine j_aload_n X 0 rfl rfl dX8_off_24 ?_
      refine j_get X (by decide) (wE_8 _ rfl) rfl awF8 0 (by decide) aw_92 rfl (v := .ref (ad 80)) rfl dX8_off_25 ?_
      refine j_aload_n X 0 rfl rfl dX8_off_28 ?_
      refine j_get X (by decide) (wE_8 _ rfl) rfl awF8 2 (by decide) aw_94 rfl (v := .ref (ad 82)) rfl dX8_off_29 ?_
      refine j_callVV X (nn := 2) (As := [.ref (ad 80), .ref (ad 82)]) (st := []) (ci := 8) (by decide) (wE_8 _ rfl) rfl aw_553 aw_554 (c_moveAll_80_82 l D y ad M) aw_552 aw_555 aw_5 (by decide +kernel) ⟨by decide, by decide⟩ rfl (Nat.le_of_ble_eq_true rfl) ⟨by decide, by decide⟩ dX8_off_32 ?_
      rintro M_6 ⟨s_5, s_5_v⟩
      refine j_aload_n X 0 rfl rfl dX8_off_35 ?_
      refine j_iconst X (v := 0) (by decide) dX8_off_36 ?_
      refine j_callVV X (nn := 1) (As := [.int 0]) (st := []) (ci := 8) (by decide) (wE_8 _ rfl) rfl aw_486 aw_487 (c_oneDay0_0 l D y ad M_6 ((s_5 80 2 rfl).trans hz.2.2.1)) aw_485 aw_488 aw_5 (by decide +kernel) ⟨by decide, by decide⟩ rfl (Nat.le_of_ble_eq_true rfl) ⟨by decide, by decide⟩ dX8_off_37 ?_
      rintro M_8 s_7
      refine j_aload_n X 0 rfl rfl dX8_off_40 ?_
      refine j_iload_n X 1 rfl rfl dX8_off_41 ?_
      refine j_iconst X (v := 1) (by decide) dX8_off_42 ?_
      refine j_isub X dX8_off_43 ?_
      refine j_eqi (v := nI N) (nI_pred N) ?_
      refine j_callVV X (nn := 1) (As := [.int (nI N)]) (st := []) (ci := 8) (by decide) (wE_8 _ rfl) rfl aw_482 aw_483 (c_passes0 l D y ad M_8 N (by omega) ((s_7 80 2 rfl).trans ((s_5 80 2 rfl).trans hz.2.2.1))) aw_481 aw_484 aw_5 (by decide +kernel) ⟨by decide, by decide⟩ rfl (Nat.le_of_ble_eq_true rfl) ⟨by decide, by decide⟩ dX8_off_44 ?_
      rintro M_10 s_9
      refine j_aload_n X 0 rfl rfl dX8_off_47 ?_
      refine j_get X (by decide) (wE_8 _ rfl) rfl awF8 0 (by decide) aw_92 rfl (v := .ref (ad 80)) rfl dX8_off_48 ?_
      refine j_bipush X (v := 9) (by decide) dX8_off_51 ?_
      refine j_iald X (by decide) rfl (by unfold vp_in; decide) dX8_off_53 ?_
      refine j_eqi (v := 0) ((s_9 80 9 rfl).trans ((s_7 80 9 rfl).trans ((s_5 80 9 rfl).trans hz.2.2.2.2.2.2.2.2.2.1))) ?_
      refine j_istore_n X [(2, .int 0), (0, .ref (ad 79)), (1, .int (nI (N + 1)))] rfl (by decide) rfl dX8_off_54 ?_
      refine j_aload_n X 1 rfl rfl dX8_off_55 ?_
      refine j_aload_n X 1 rfl rfl dX8_off_56 ?_
      refine j_get X (by decide) (wE_8 _ rfl) rfl awF8 2 (by decide) aw_94 rfl (v := .ref (ad 82)) rfl dX8_off_57 ?_
      refine j_aload_n X 1 rfl rfl dX8_off_60 ?_
      refine j_get X (by decide) (wE_8 _ rfl) rfl awF8 0 (by decide) aw_92 rfl (v := .ref (ad 80)) rfl dX8_off_61 ?_
      refine j_callVV X (nn := 2) (As := [.ref (ad 82), .ref (ad 80)]) (st := []) (ci := 8) (by decide) (wE_8 _ rfl) rfl aw_553 aw_554 (c_moveAll_82_80 l D y ad M_10) aw_552 aw_555 aw_5 (by decide +kernel) ⟨by decide, by decide⟩ rfl (Nat.le_of_ble_eq_true rfl) ⟨by decide, by decide⟩ dX8_off_64 ?_
      rintro M_12 ⟨s_11, s_11_v⟩
      refine j_aload_n X 1 rfl rfl dX8_off_67 ?_
      refine j_iload_n X 2 rfl rfl dX8_off_68 ?_
      refine j_callVV X (nn := 1) (As := [.int (nI (N + 1))]) (st := []) (ci := 8) (by decide) (wE_8 _ rfl) rfl aw_482 aw_483 (c_passes0 l D y ad M_12 (N + 1) (by omega) ((s_11_v 2 (by decide)).trans ((s_9 82 2 rfl).trans ((s_7 82 2 rfl).trans ((s_5_v 2 (by decide)).trans hz.2.2.1))))) aw_481 aw_484 aw_5 (by decide +kernel) ⟨by decide, by decide⟩ rfl (Nat.le_of_ble_eq_true rfl) ⟨by decide, by decide⟩ dX8_off_69 ?_
      rintro M_14 s_13
      refine j_iload_n X 0 rfl rfl dX8_off_72 ?_
      refine j_aload_n X 1 rfl rfl dX8_off_73 ?_
      refine j_get X (by decide) (wE_8 _ rfl) rfl awF8 0 (by decide) aw_92 rfl (v := .ref (ad 80)) rfl dX8_off_74 ?_
      refine j_bipush X (v := 9) (by decide) dX8_off_77 ?_
      refine j_iald X (by decide) rfl (by unfold vp_in; decide) dX8_off_79 ?_
      refine j_eqi (v := 0) ((s_13 80 9 rfl).trans ((s_11_v 9 (by decide)).trans ((s_9 82 9 rfl).trans ((s_7 82 9 rfl).trans ((s_5_v 9 (by decide)).trans hz.2.2.2.2.2.2.2.2.2.1))))) ?_
      refine j_isub X dX8_off_80 ?_
      refine j_eqi (v := 0) (by decide) ?_
      refine j_istore_n X [(2, .int 0), (0, .ref (ad 79)), (1, .int (nI (N + 1)))] rfl (by decide) rfl dX8_off_81 ?_
      refine j_aload_n X 1 rfl rfl dX8_off_82 ?_
      refine j_aload_n X 1 rfl rfl dX8_off_83 ?_
      refine j_get X (by decide) (wE_8 _ rfl) rfl awF8 2 (by decide) aw_94 rfl (v := .ref (ad 82)) rfl dX8_off_84 ?_
      refine j_aload_n X 1 rfl rfl dX8_off_87 ?_
      refine j_get X (by decide) (wE_8 _ rfl) rfl awF8 0 (by decide) aw_92 rfl (v := .ref (ad 80)) rfl dX8_off_88 ?_
      refine j_callVV X (nn := 2) (As := [.ref (ad 82), .ref (ad 80)]) (st := []) (ci := 8) (by decide) (wE_8 _ rfl) rfl aw_553 aw_554 (c_moveAll_82_80 l D y ad M_14) aw_552 aw_555 aw_5 (by decide +kernel) ⟨by decide, by decide⟩ rfl (Nat.le_of_ble_eq_true rfl) ⟨by decide, by decide⟩ dX8_off_91 ?_
      rintro M_16 ⟨s_15, s_15_v⟩
      refine j_iload_n X 0 rfl rfl dX8_off_94 ?_
      exact j_iret X hr hlocks dX8_off_95 (by unfold sp_off; rw [nI_ti hN (by decide)]; (repeat' split) <;> first | rfl | omega | (exfalso; omega))
  · refine j_if_ne X 17 (by decide) dX8_off_7 (fun c_17 => False.elim (by revert c_17; decide)) (fun c_17 => ?_)
    refine j_aload_n X 0 rfl rfl dX8_off_10 ?_
    refine j_ldc X (v := (-1000000001)) aw_132 dX8_off_11 ?_
    refine j_callVI X (nn := 1) (As := [.int (-1000000001)]) (st := []) (ci := 8) (by decide) (wE_8 _ rfl) rfl aw_144 aw_145 (c_X8_errs l D y ad M (-1000000001) 1 (by decide) (by decide)) aw_143 aw_146 aw_5 (by decide +kernel) ⟨by decide, by decide⟩ rfl (Nat.le_of_ble_eq_true rfl) ⟨by decide, by decide⟩ dX8_off_13 ?_
    rintro r_ M1_ ⟨rfl, rfl⟩
    exact j_iret X hr hlocks dX8_off_16 (by unfold sp_off; (repeat' split) <;> first | rfl | omega | (exfalso; omega))
