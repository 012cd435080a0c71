theorem dX7_mostOfGrinder_0 : decode cX7_mostOfGrinder 0 = .ok (.iload_n 0, 1) := by decide +kernel
theorem dX7_mostOfGrinder_1 : decode cX7_mostOfGrinder 1 = .ok (.tableswitch 37 0 2 #[27, 30, 33], 27) := by decide +kernel
theorem dX7_mostOfGrinder_28 : decode cX7_mostOfGrinder 28 = .ok (.bipush 9, 2) := by decide +kernel
theorem dX7_mostOfGrinder_30 : decode cX7_mostOfGrinder 30 = .ok (.ireturn, 1) := by decide +kernel
theorem dX7_mostOfGrinder_31 : decode cX7_mostOfGrinder 31 = .ok (.bipush 9, 2) := by decide +kernel
theorem dX7_mostOfGrinder_33 : decode cX7_mostOfGrinder 33 = .ok (.ireturn, 1) := by decide +kernel
theorem dX7_mostOfGrinder_34 : decode cX7_mostOfGrinder 34 = .ok (.ldc_w 314, 3) := by decide +kernel
theorem dX7_mostOfGrinder_37 : decode cX7_mostOfGrinder 37 = .ok (.ireturn, 1) := by decide +kernel
theorem dX7_mostOfGrinder_38 : decode cX7_mostOfGrinder 38 = .ok (.ldc_w 314, 3) := by decide +kernel
theorem dX7_mostOfGrinder_41 : decode cX7_mostOfGrinder 41 = .ok (.ireturn, 1) := by decide +kernel
theorem dX0_setGrinder_0 : decode cX0_setGrinder 0 = .ok (.iload_n 1, 1) := by decide +kernel
theorem dX0_setGrinder_1 : decode cX0_setGrinder 1 = .ok (.tableswitch 63 0 2 #[27, 39, 51], 27) := by decide +kernel
theorem dX0_setGrinder_28 : decode cX0_setGrinder 28 = .ok (.aload_n 0, 1) := by decide +kernel
theorem dX0_setGrinder_29 : decode cX0_setGrinder 29 = .ok (.getfield 36, 3) := by decide +kernel
theorem dX0_setGrinder_32 : decode cX0_setGrinder 32 = .ok (.istore_n 3, 1) := by decide +kernel
theorem dX0_setGrinder_33 : decode cX0_setGrinder 33 = .ok (.aload_n 0, 1) := by decide +kernel
theorem dX0_setGrinder_34 : decode cX0_setGrinder 34 = .ok (.iload_n 2, 1) := by decide +kernel
theorem dX0_setGrinder_35 : decode cX0_setGrinder 35 = .ok (.putfield 36, 3) := by decide +kernel
theorem dX0_setGrinder_38 : decode cX0_setGrinder 38 = .ok (.iload_n 3, 1) := by decide +kernel
theorem dX0_setGrinder_39 : decode cX0_setGrinder 39 = .ok (.ireturn, 1) := by decide +kernel
theorem dX0_setGrinder_40 : decode cX0_setGrinder 40 = .ok (.aload_n 0, 1) := by decide +kernel
theorem dX0_setGrinder_41 : decode cX0_setGrinder 41 = .ok (.getfield 17, 3) := by decide +kernel
theorem dX0_setGrinder_44 : decode cX0_setGrinder 44 = .ok (.istore_n 3, 1) := by decide +kernel
theorem dX0_setGrinder_45 : decode cX0_setGrinder 45 = .ok (.aload_n 0, 1) := by decide +kernel
theorem dX0_setGrinder_46 : decode cX0_setGrinder 46 = .ok (.iload_n 2, 1) := by decide +kernel
theorem dX0_setGrinder_47 : decode cX0_setGrinder 47 = .ok (.putfield 17, 3) := by decide +kernel
theorem dX0_setGrinder_50 : decode cX0_setGrinder 50 = .ok (.iload_n 3, 1) := by decide +kernel
theorem dX0_setGrinder_51 : decode cX0_setGrinder 51 = .ok (.ireturn, 1) := by decide +kernel
theorem dX0_setGrinder_52 : decode cX0_setGrinder 52 = .ok (.aload_n 0, 1) := by decide +kernel
theorem dX0_setGrinder_53 : decode cX0_setGrinder 53 = .ok (.getfield 42, 3) := by decide +kernel
theorem dX0_setGrinder_56 : decode cX0_setGrinder 56 = .ok (.istore_n 3, 1) := by decide +kernel
theorem dX0_setGrinder_57 : decode cX0_setGrinder 57 = .ok (.aload_n 0, 1) := by decide +kernel
theorem dX0_setGrinder_58 : decode cX0_setGrinder 58 = .ok (.iload_n 2, 1) := by decide +kernel
theorem dX0_setGrinder_59 : decode cX0_setGrinder 59 = .ok (.putfield 42, 3) := by decide +kernel
theorem dX0_setGrinder_62 : decode cX0_setGrinder 62 = .ok (.iload_n 3, 1) := by decide +kernel
theorem dX0_setGrinder_63 : decode cX0_setGrinder 63 = .ok (.ireturn, 1) := by decide +kernel
theorem dX0_setGrinder_64 : decode cX0_setGrinder 64 = .ok (.aload_n 0, 1) := by decide +kernel
theorem dX0_setGrinder_65 : decode cX0_setGrinder 65 = .ok (.getfield 45, 3) := by decide +kernel
theorem dX0_setGrinder_68 : decode cX0_setGrinder 68 = .ok (.istore_n 3, 1) := by decide +kernel
theorem dX0_setGrinder_69 : decode cX0_setGrinder 69 = .ok (.aload_n 0, 1) := by decide +kernel
theorem dX0_setGrinder_70 : decode cX0_setGrinder 70 = .ok (.iload_n 2, 1) := by decide +kernel
theorem dX0_setGrinder_71 : decode cX0_setGrinder 71 = .ok (.putfield 45, 3) := by decide +kernel
theorem dX0_setGrinder_74 : decode cX0_setGrinder 74 = .ok (.iload_n 3, 1) := by decide +kernel
theorem dX0_setGrinder_75 : decode cX0_setGrinder 75 = .ok (.ireturn, 1) := by decide +kernel
theorem dX7_isQuarrel_0 : decode cX7_isQuarrel 0 = .ok (.iload_n 1, 1) := by decide +kernel
theorem dX7_isQuarrel_1 : decode cX7_isQuarrel 1 = .ok (.iconst 0, 1) := by decide +kernel
theorem dX7_isQuarrel_2 : decode cX7_isQuarrel 2 = .ok (.aload_n 0, 1) := by decide +kernel
theorem dX7_isQuarrel_3 : decode cX7_isQuarrel 3 = .ok (.getfield 12, 3) := by decide +kernel
theorem dX7_isQuarrel_6 : decode cX7_isQuarrel 6 = .ok (.getfield 72, 3) := by decide +kernel
theorem dX7_isQuarrel_9 : decode cX7_isQuarrel 9 = .ok (.getfield 86, 3) := by decide +kernel
theorem dX7_isQuarrel_12 : decode cX7_isQuarrel 12 = .ok (.iconst 1, 1) := by decide +kernel
theorem dX7_isQuarrel_13 : decode cX7_isQuarrel 13 = .ok (.isub, 1) := by decide +kernel
theorem dX7_isQuarrel_14 : decode cX7_isQuarrel 14 = .ok (.invokestatic 60, 3) := by decide +kernel
theorem dX7_isQuarrel_17 : decode cX7_isQuarrel 17 = .ok (.ireturn, 1) := by decide +kernel
theorem dX7_isKindAndM_0 : decode cX7_isKindAndM 0 = .ok (.iload_n 0, 1) := by decide +kernel
theorem dX7_isKindAndM_1 : decode cX7_isKindAndM 1 = .ok (.iconst 0, 1) := by decide +kernel
theorem dX7_isKindAndM_2 : decode cX7_isKindAndM 2 = .ok (.bipush 69, 2) := by decide +kernel
theorem dX7_isKindAndM_4 : decode cX7_isKindAndM 4 = .ok (.invokestatic 60, 3) := by decide +kernel
theorem dX7_isKindAndM_7 : decode cX7_isKindAndM 7 = .ok (.ireturn, 1) := by decide +kernel
theorem dX7_isSheet_0 : decode cX7_isSheet 0 = .ok (.iload_n 0, 1) := by decide +kernel
theorem dX7_isSheet_1 : decode cX7_isSheet 1 = .ok (.iconst 0, 1) := by decide +kernel
theorem dX7_isSheet_2 : decode cX7_isSheet 2 = .ok (.iconst 3, 1) := by decide +kernel
theorem dX7_isSheet_3 : decode cX7_isSheet 3 = .ok (.invokestatic 60, 3) := by decide +kernel
theorem dX7_isSheet_6 : decode cX7_isSheet 6 = .ok (.ireturn, 1) := by decide +kernel
theorem dX7_ofQuarrel_0 : decode cX7_ofQuarrel 0 = .ok (.aload_n 0, 1) := by decide +kernel
theorem dX7_ofQuarrel_1 : decode cX7_ofQuarrel 1 = .ok (.iload_n 1, 1) := by decide +kernel
theorem dX7_ofQuarrel_2 : decode cX7_ofQuarrel 2 = .ok (.invokevirtual 117, 3) := by decide +kernel
theorem dX7_ofQuarrel_5 : decode cX7_ofQuarrel 5 = .ok (.ifCond .eq 13, 3) := by decide +kernel
theorem dX7_ofQuarrel_18 : decode cX7_ofQuarrel 18 = .ok (.aload_n 0, 1) := by decide +kernel
theorem dX7_ofQuarrel_19 : decode cX7_ofQuarrel 19 = .ok (.ldc 68, 2) := by decide +kernel
theorem dX7_ofQuarrel_21 : decode cX7_ofQuarrel 21 = .ok (.invokevirtual 69, 3) := by decide +kernel
theorem dX7_ofQuarrel_24 : decode cX7_ofQuarrel 24 = .ok (.ireturn, 1) := by decide +kernel
theorem dX7_change_0 : decode cX7_change 0 = .ok (.aload_n 0, 1) := by decide +kernel
theorem dX7_change_1 : decode cX7_change 1 = .ok (.iload_n 1, 1) := by decide +kernel
theorem dX7_change_2 : decode cX7_change 2 = .ok (.invokevirtual 117, 3) := by decide +kernel
theorem dX7_change_5 : decode cX7_change 5 = .ok (.ifCond .eq 24, 3) := by decide +kernel
theorem dX7_change_29 : decode cX7_change 29 = .ok (.aload_n 0, 1) := by decide +kernel
theorem dX7_change_30 : decode cX7_change 30 = .ok (.ldc 68, 2) := by decide +kernel
theorem dX7_change_32 : decode cX7_change 32 = .ok (.invokevirtual 69, 3) := by decide +kernel
theorem dX7_change_35 : decode cX7_change 35 = .ok (.ireturn, 1) := by decide +kernel
theorem dX7_become_0 : decode cX7_become 0 = .ok (.aload_n 0, 1) := by decide +kernel
theorem dX7_become_1 : decode cX7_become 1 = .ok (.iload_n 1, 1) := by decide +kernel
theorem dX7_become_2 : decode cX7_become 2 = .ok (.invokevirtual 117, 3) := by decide +kernel
theorem dX7_become_5 : decode cX7_become 5 = .ok (.ifCond .eq 10, 3) := by decide +kernel
theorem dX7_become_15 : decode cX7_become 15 = .ok (.aload_n 0, 1) := by decide +kernel
theorem dX7_become_16 : decode cX7_become 16 = .ok (.ldc 68, 2) := by decide +kernel
theorem dX7_become_18 : decode cX7_become 18 = .ok (.invokevirtual 69, 3) := by decide +kernel
theorem dX7_become_21 : decode cX7_become 21 = .ok (.ireturn, 1) := by decide +kernel
theorem dX7_as_0 : decode cX7_as 0 = .ok (.aload_n 0, 1) := by decide +kernel
theorem dX7_as_1 : decode cX7_as 1 = .ok (.iload_n 1, 1) := by decide +kernel
theorem dX7_as_2 : decode cX7_as 2 = .ok (.invokevirtual 117, 3) := by decide +kernel
theorem dX7_as_5 : decode cX7_as 5 = .ok (.ifCond .eq 13, 3) := by decide +kernel
theorem dX7_as_18 : decode cX7_as 18 = .ok (.aload_n 0, 1) := by decide +kernel
theorem dX7_as_19 : decode cX7_as 19 = .ok (.ldc 68, 2) := by decide +kernel
theorem dX7_as_21 : decode cX7_as 21 = .ok (.invokevirtual 69, 3) := by decide +kernel
theorem dX7_as_24 : decode cX7_as 24 = .ok (.ireturn, 1) := by decide +kernel
theorem dX7_when_0 : decode cX7_when 0 = .ok (.aload_n 0, 1) := by decide +kernel
theorem dX7_when_1 : decode cX7_when 1 = .ok (.iload_n 1, 1) := by decide +kernel
theorem dX7_when_2 : decode cX7_when 2 = .ok (.invokevirtual 117, 3) := by decide +kernel
theorem dX7_when_5 : decode cX7_when 5 = .ok (.ifCond .ne 10, 3) := by decide +kernel
theorem dX7_when_8 : decode cX7_when 8 = .ok (.aload_n 0, 1) := by decide +kernel
theorem dX7_when_9 : decode cX7_when 9 = .ok (.ldc 68, 2) := by decide +kernel
theorem dX7_when_11 : decode cX7_when 11 = .ok (.invokevirtual 69, 3) := by decide +kernel
theorem dX7_when_14 : decode cX7_when 14 = .ok (.ireturn, 1) := by decide +kernel
theorem dX7_chain_0 : decode cX7_chain 0 = .ok (.aload_n 0, 1) := by decide +kernel
theorem dX7_chain_1 : decode cX7_chain 1 = .ok (.iload_n 1, 1) := by decide +kernel
theorem dX7_chain_2 : decode cX7_chain 2 = .ok (.invokevirtual 117, 3) := by decide +kernel
theorem dX7_chain_5 : decode cX7_chain 5 = .ok (.ifCond .ne 10, 3) := by decide +kernel
theorem dX7_chain_8 : decode cX7_chain 8 = .ok (.aload_n 0, 1) := by decide +kernel
theorem dX7_chain_9 : decode cX7_chain 9 = .ok (.ldc 68, 2) := by decide +kernel
theorem dX7_chain_11 : decode cX7_chain 11 = .ok (.invokevirtual 69, 3) := by decide +kernel
theorem dX7_chain_14 : decode cX7_chain 14 = .ok (.ireturn, 1) := by decide +kernel
theorem dX7_hand_0 : decode cX7_hand 0 = .ok (.aload_n 0, 1) := by decide +kernel
theorem dX7_hand_1 : decode cX7_hand 1 = .ok (.iload_n 1, 1) := by decide +kernel
theorem dX7_hand_2 : decode cX7_hand 2 = .ok (.invokevirtual 117, 3) := by decide +kernel
theorem dX7_hand_5 : decode cX7_hand 5 = .ok (.ifCond .eq 13, 3) := by decide +kernel
theorem dX7_hand_18 : decode cX7_hand 18 = .ok (.aload_n 0, 1) := by decide +kernel
theorem dX7_hand_19 : decode cX7_hand 19 = .ok (.ldc 68, 2) := by decide +kernel
theorem dX7_hand_21 : decode cX7_hand 21 = .ok (.invokevirtual 69, 3) := by decide +kernel
theorem dX7_hand_24 : decode cX7_hand 24 = .ok (.ireturn, 1) := by decide +kernel
theorem dX7_sharp_0 : decode cX7_sharp 0 = .ok (.aload_n 0, 1) := by decide +kernel
theorem dX7_sharp_1 : decode cX7_sharp 1 = .ok (.iload_n 1, 1) := by decide +kernel
theorem dX7_sharp_2 : decode cX7_sharp 2 = .ok (.invokevirtual 117, 3) := by decide +kernel
theorem dX7_sharp_5 : decode cX7_sharp 5 = .ok (.ifCond .eq 13, 3) := by decide +kernel
theorem dX7_sharp_18 : decode cX7_sharp 18 = .ok (.aload_n 0, 1) := by decide +kernel
theorem dX7_sharp_19 : decode cX7_sharp 19 = .ok (.ldc 68, 2) := by decide +kernel
theorem dX7_sharp_21 : decode cX7_sharp 21 = .ok (.invokevirtual 69, 3) := by decide +kernel
theorem dX7_sharp_24 : decode cX7_sharp 24 = .ok (.ireturn, 1) := by decide +kernel
theorem dX7_odds_0 : decode cX7_odds 0 = .ok (.aload_n 0, 1) := by decide +kernel
theorem dX7_odds_1 : decode cX7_odds 1 = .ok (.iload_n 1, 1) := by decide +kernel
theorem dX7_odds_2 : decode cX7_odds 2 = .ok (.invokevirtual 117, 3) := by decide +kernel
theorem dX7_odds_5 : decode cX7_odds 5 = .ok (.ifCond .eq 22, 3) := by decide +kernel
theorem dX7_odds_27 : decode cX7_odds 27 = .ok (.aload_n 0, 1) := by decide +kernel
theorem dX7_odds_28 : decode cX7_odds 28 = .ok (.ldc 68, 2) := by decide +kernel
theorem dX7_odds_30 : decode cX7_odds 30 = .ok (.invokevirtual 69, 3) := by decide +kernel
theorem dX7_odds_33 : decode cX7_odds 33 = .ok (.ireturn, 1) := by decide +kernel
theorem dX7_voice_0 : decode cX7_voice 0 = .ok (.aload_n 0, 1) := by decide +kernel
theorem dX7_voice_1 : decode cX7_voice 1 = .ok (.iload_n 1, 1) := by decide +kernel
theorem dX7_voice_2 : decode cX7_voice 2 = .ok (.invokevirtual 117, 3) := by decide +kernel
theorem dX7_voice_5 : decode cX7_voice 5 = .ok (.ifCond .eq 12, 3) := by decide +kernel
theorem dX7_voice_17 : decode cX7_voice 17 = .ok (.aload_n 0, 1) := by decide +kernel
theorem dX7_voice_18 : decode cX7_voice 18 = .ok (.ldc 68, 2) := by decide +kernel
theorem dX7_voice_20 : decode cX7_voice 20 = .ok (.invokevirtual 69, 3) := by decide +kernel
theorem dX7_voice_23 : decode cX7_voice 23 = .ok (.ireturn, 1) := by decide +kernel
theorem dX7_then_0 : decode cX7_then 0 = .ok (.iload_n 1, 1) := by decide +kernel
theorem dX7_then_1 : decode cX7_then 1 = .ok (.iconst 0, 1) := by decide +kernel
theorem dX7_then_2 : decode cX7_then 2 = .ok (.bipush 60, 2) := by decide +kernel
theorem dX7_then_4 : decode cX7_then 4 = .ok (.invokestatic 60, 3) := by decide +kernel
theorem dX7_then_7 : decode cX7_then 7 = .ok (.ifCond .eq 20, 3) := by decide +kernel
theorem dX7_then_10 : decode cX7_then 10 = .ok (.aload_n 0, 1) := by decide +kernel
theorem dX7_then_11 : decode cX7_then 11 = .ok (.iload_n 2, 1) := by decide +kernel
theorem dX7_then_12 : decode cX7_then 12 = .ok (.invokevirtual 117, 3) := by decide +kernel
theorem dX7_then_15 : decode cX7_then 15 = .ok (.ifCond .eq 12, 3) := by decide +kernel
theorem dX7_then_27 : decode cX7_then 27 = .ok (.aload_n 0, 1) := by decide +kernel
theorem dX7_then_28 : decode cX7_then 28 = .ok (.ldc 68, 2) := by decide +kernel
theorem dX7_then_30 : decode cX7_then 30 = .ok (.invokevirtual 69, 3) := by decide +kernel
theorem dX7_then_33 : decode cX7_then 33 = .ok (.ireturn, 1) := by decide +kernel
theorem dX7_inArea_0 : decode cX7_inArea 0 = .ok (.iload_n 1, 1) := by decide +kernel
theorem dX7_inArea_1 : decode cX7_inArea 1 = .ok (.iconst 0, 1) := by decide +kernel
theorem dX7_inArea_2 : decode cX7_inArea 2 = .ok (.bipush 9, 2) := by decide +kernel
theorem dX7_inArea_4 : decode cX7_inArea 4 = .ok (.invokestatic 60, 3) := by decide +kernel
theorem dX7_inArea_7 : decode cX7_inArea 7 = .ok (.ifCond .ne 10, 3) := by decide +kernel
theorem dX7_inArea_17 : decode cX7_inArea 17 = .ok (.aload_n 0, 1) := by decide +kernel
theorem dX7_inArea_18 : decode cX7_inArea 18 = .ok (.getfield 12, 3) := by decide +kernel
theorem dX7_inArea_21 : decode cX7_inArea 21 = .ok (.getfield 72, 3) := by decide +kernel
theorem dX7_inArea_24 : decode cX7_inArea 24 = .ok (.iload_n 1, 1) := by decide +kernel
theorem dX7_inArea_25 : decode cX7_inArea 25 = .ok (.invokevirtual 79, 3) := by decide +kernel
theorem dX7_inArea_28 : decode cX7_inArea 28 = .ok (.ireturn, 1) := by decide +kernel
theorem dX7_inArea_10 : decode cX7_inArea 10 = .ok (.aload_n 0, 1) := by decide +kernel
theorem dX7_inArea_11 : decode cX7_inArea 11 = .ok (.ldc 68, 2) := by decide +kernel
theorem dX7_inArea_13 : decode cX7_inArea 13 = .ok (.invokevirtual 69, 3) := by decide +kernel
theorem dX7_inArea_16 : decode cX7_inArea 16 = .ok (.ireturn, 1) := by decide +kernel
theorem dX7_set_0 : decode cX7_set 0 = .ok (.iload_n 1, 1) := by decide +kernel
theorem dX7_set_1 : decode cX7_set 1 = .ok (.iconst 0, 1) := by decide +kernel
theorem dX7_set_2 : decode cX7_set 2 = .ok (.iconst 3, 1) := by decide +kernel
theorem dX7_set_3 : decode cX7_set 3 = .ok (.invokestatic 60, 3) := by decide +kernel
theorem dX7_set_6 : decode cX7_set 6 = .ok (.ifCond .eq 15, 3) := by decide +kernel
theorem dX7_set_9 : decode cX7_set 9 = .ok (.iload_n 2, 1) := by decide +kernel
theorem dX7_set_10 : decode cX7_set 10 = .ok (.iconst 0, 1) := by decide +kernel
theorem dX7_set_11 : decode cX7_set 11 = .ok (.iload_n 1, 1) := by decide +kernel
theorem dX7_set_12 : decode cX7_set 12 = .ok (.invokestatic 64, 3) := by decide +kernel
theorem dX7_set_15 : decode cX7_set 15 = .ok (.invokestatic 60, 3) := by decide +kernel
theorem dX7_set_18 : decode cX7_set 18 = .ok (.ifCond .ne 10, 3) := by decide +kernel
theorem dX7_set_28 : decode cX7_set 28 = .ok (.aload_n 0, 1) := by decide +kernel
theorem dX7_set_29 : decode cX7_set 29 = .ok (.getfield 12, 3) := by decide +kernel
theorem dX7_set_32 : decode cX7_set 32 = .ok (.getfield 72, 3) := by decide +kernel
theorem dX7_set_35 : decode cX7_set 35 = .ok (.iload_n 1, 1) := by decide +kernel
theorem dX7_set_36 : decode cX7_set 36 = .ok (.iload_n 2, 1) := by decide +kernel
theorem dX7_set_37 : decode cX7_set 37 = .ok (.invokevirtual 75, 3) := by decide +kernel
theorem dX7_set_40 : decode cX7_set 40 = .ok (.ireturn, 1) := by decide +kernel
theorem dX7_set_21 : decode cX7_set 21 = .ok (.aload_n 0, 1) := by decide +kernel
theorem dX7_set_22 : decode cX7_set 22 = .ok (.ldc 68, 2) := by decide +kernel
theorem dX7_set_24 : decode cX7_set 24 = .ok (.invokevirtual 69, 3) := by decide +kernel
theorem dX7_set_27 : decode cX7_set 27 = .ok (.ireturn, 1) := by decide +kernel
set_option maxRecDepth 100000 in
set_option maxHeartbeats 4000000 in
theorem c_X7_mostOfGrinder (l : Launch) (D : va_G) (y : wY) (ad : Nat → Nat) (M : Mem) (what : Int32) : MI l D y ad yX7_mostOfGrinder (Cond.code yX7_mostOfGrinder cX7_mostOfGrinder 1 (some .int)) 0 M [.int what] (fun r M' => (what.toInt = 0 ∧ 9 = r ∧ M = M') ∨ (what.toInt = 1 ∧ 9 = r ∧ M = M') ∨ (what.toInt = 2 ∧ 99999 = r ∧ M = M') ∨ ((what.toInt ≠ 0 ∧ what.toInt ≠ 1 ∧ what.toInt ≠ 2) ∧ 99999 = r ∧ M = M')) := by
  refine MI_of (by decide) (Nat.le_of_ble_eq_true rfl) ?_
  intro p e s m args below meth c X hr hlocks
  refine j_lv (lv1 := [(0, .int what)]) [0] rfl ?_
  refine j_iload_n X 0 rfl rfl dX7_mostOfGrinder_0 ?_
  by_cases w_1 : what = 0
  · refine j_tsw_in X 28 0 w_1 (by decide) (by decide) (off := 27) rfl (by decide) dX7_mostOfGrinder_1 ?_
    have qw_1 := ti_eq (n := 0) (by decide) w_1
    refine j_bipush X (v := 9) (by decide) dX7_mostOfGrinder_28 ?_
    exact j_iret X hr hlocks dX7_mostOfGrinder_30 (Or.inl ⟨qw_1, rfl, rfl⟩)
  by_cases w_2 : what = 1
  · refine j_tsw_in X 31 1 w_2 (by decide) (by decide) (off := 30) rfl (by decide) dX7_mostOfGrinder_1 ?_
    have qw_2 := ti_eq (n := 1) (by decide) w_2
    refine j_bipush X (v := 9) (by decide) dX7_mostOfGrinder_31 ?_
    exact j_iret X hr hlocks dX7_mostOfGrinder_33 (Or.inr (Or.inl ⟨qw_2, rfl, rfl⟩))
  by_cases w_3 : what = 2
  · refine j_tsw_in X 34 2 w_3 (by decide) (by decide) (off := 33) rfl (by decide) dX7_mostOfGrinder_1 ?_
    have qw_3 := ti_eq (n := 2) (by decide) w_3
    refine j_ldcw X (v := 99999) aw_115 dX7_mostOfGrinder_34 ?_
    exact j_iret X hr hlocks dX7_mostOfGrinder_37 (Or.inr (Or.inr (Or.inl ⟨qw_3, rfl, rfl⟩)))
  refine j_tsw_out X 38 (tsw_out 2 (by decide) (fun j hj => by
    have hj : j = 0 ∨ j = 1 ∨ j = 2 := by omega
    rcases hj with rfl | rfl | rfl
    · exact w_1
    · exact w_2
    · exact w_3
    )) (by decide) dX7_mostOfGrinder_1 ?_
  have qw_1 := ti_ne (n := 0) (by decide) w_1
  have qw_2 := ti_ne (n := 1) (by decide) w_2
  have qw_3 := ti_ne (n := 2) (by decide) w_3
  refine j_ldcw X (v := 99999) aw_115 dX7_mostOfGrinder_38 ?_
  exact j_iret X hr hlocks dX7_mostOfGrinder_41 (Or.inr (Or.inr (Or.inr ⟨by omega, rfl, rfl⟩)))
set_option maxRecDepth 100000 in
set_option maxHeartbeats 4000000 in
theorem c_setGrinder_12 (l : Launch) (D : va_G) (y : wY) (ad : Nat → Nat) (M : Mem) (hz : Z0 M) (what v : Int32) : MI l D y ad yX0_setGrinder (Cond.code yX0_setGrinder cX0_setGrinder 4 (some .int)) 0 M [.ref (ad 12), .int what, .int v] (fun r M' => (what.toInt = 0 ∧ 0 = r ∧ sm (fun b _ => b == 12) M M') ∨ (what.toInt = 1 ∧ 1 = r ∧ sm (fun b _ => b == 12) M M') ∨ (what.toInt = 2 ∧ 0 = r ∧ sm (fun b _ => b == 12) M M') ∨ ((what.toInt ≠ 0 ∧ what.toInt ≠ 1 ∧ what.toInt ≠ 2) ∧ 0 = r ∧ sm (fun b _ => b == 12) M M')) := by
  refine MI_of (by decide) (Nat.le_of_ble_eq_true rfl) ?_
  intro p e s m args below meth c X hr hlocks
  refine j_lv (lv1 := [(0, .ref (ad 12)), (1, .int what), (2, .int v)]) [0, 1, 2] rfl ?_
  refine j_iload_n X 1 rfl rfl dX0_setGrinder_0 ?_
  by_cases w_1 : what = 0
  · refine j_tsw_in X 28 0 w_1 (by decide) (by decide) (off := 27) rfl (by decide) dX0_setGrinder_1 ?_
    have qw_1 := ti_eq (n := 0) (by decide) w_1
    refine j_aload_n X 0 rfl rfl dX0_setGrinder_28 ?_
    refine j_get X (by decide) (wE_0 _ rfl) rfl awF0 4 (by decide) aw_124 rfl (v := .int (M 12 4)) rfl dX0_setGrinder_29 ?_
    refine j_eqi (v := 0) hz.2.1 ?_
    refine j_istore_n X [(3, .int 0), (0, .ref (ad 12)), (1, .int what), (2, .int v)] rfl (by decide) rfl dX0_setGrinder_32 ?_
    refine j_aload_n X 1 rfl rfl dX0_setGrinder_33 ?_
    refine j_iload_n X 3 rfl rfl dX0_setGrinder_34 ?_
    refine j_put X (up M 12 4 v) up_o (by decide) (wE_0 _ rfl) rfl awF0 4 (by decide) (wP_0_4 _ _ rfl) tyX0 tyX0_ok nmX0 rfl (ty := .int) (by decide +kernel) rfl rfl (Nat.le_of_ble_eq_true rfl) aw_124 rfl dX0_setGrinder_35 ?_
    refine j_iload_n X 0 rfl rfl dX0_setGrinder_38 ?_
    exact j_iret X hr hlocks dX0_setGrinder_39 (Or.inl ⟨qw_1, rfl, (sm_up sm_rf rfl)⟩)
  by_cases w_2 : what = 1
  · refine j_tsw_in X 40 1 w_2 (by decide) (by decide) (off := 39) rfl (by decide) dX0_setGrinder_1 ?_
    have qw_2 := ti_eq (n := 1) (by decide) w_2
    refine j_aload_n X 0 rfl rfl dX0_setGrinder_40 ?_
    refine j_get X (by decide) (wE_0 _ rfl) rfl awF0 5 (by decide) aw_61 rfl (v := .int (M 12 5)) rfl dX0_setGrinder_41 ?_
    refine j_eqi (v := 1) hz.2.2.1 ?_
    refine j_istore_n X [(3, .int 1), (0, .ref (ad 12)), (1, .int what), (2, .int v)] rfl (by decide) rfl dX0_setGrinder_44 ?_
    refine j_aload_n X 1 rfl rfl dX0_setGrinder_45 ?_
    refine j_iload_n X 3 rfl rfl dX0_setGrinder_46 ?_
    refine j_put X (up M 12 5 v) up_o (by decide) (wE_0 _ rfl) rfl awF0 5 (by decide) (wP_0_5 _ _ rfl) tyX0 tyX0_ok nmX0 rfl (ty := .int) (by decide +kernel) rfl rfl (Nat.le_of_ble_eq_true rfl) aw_61 rfl dX0_setGrinder_47 ?_
    refine j_iload_n X 0 rfl rfl dX0_setGrinder_50 ?_
    exact j_iret X hr hlocks dX0_setGrinder_51 (Or.inr (Or.inl ⟨qw_2, rfl, (sm_up sm_rf rfl)⟩))
  by_cases w_3 : what = 2
  · refine j_tsw_in X 52 2 w_3 (by decide) (by decide) (off := 51) rfl (by decide) dX0_setGrinder_1 ?_
    have qw_3 := ti_eq (n := 2) (by decide) w_3
    refine j_aload_n X 0 rfl rfl dX0_setGrinder_52 ?_
    refine j_get X (by decide) (wE_0 _ rfl) rfl awF0 7 (by decide) aw_125 rfl (v := .int (M 12 7)) rfl dX0_setGrinder_53 ?_
    refine j_eqi (v := 0) hz.2.2.2.2.1 ?_
    refine j_istore_n X [(3, .int 0), (0, .ref (ad 12)), (1, .int what), (2, .int v)] rfl (by decide) rfl dX0_setGrinder_56 ?_
    refine j_aload_n X 1 rfl rfl dX0_setGrinder_57 ?_
    refine j_iload_n X 3 rfl rfl dX0_setGrinder_58 ?_
    refine j_put X (up M 12 7 v) up_o (by decide) (wE_0 _ rfl) rfl awF0 7 (by decide) (wP_0_7 _ _ rfl) tyX0 tyX0_ok nmX0 rfl (ty := .int) (by decide +kernel) rfl rfl (Nat.le_of_ble_eq_true rfl) aw_125 rfl dX0_setGrinder_59 ?_
    refine j_iload_n X 0 rfl rfl dX0_setGrinder_62 ?_
    exact j_iret X hr hlocks dX0_setGrinder_63 (Or.inr (Or.inr (Or.inl ⟨qw_3, rfl, (sm_up sm_rf rfl)⟩)))
  refine j_tsw_out X 64 (tsw_out 2 (by decide) (fun j hj => by
    have hj : j = 0 ∨ j = 1 ∨ j = 2 := by omega
    rcases hj with rfl | rfl | rfl
    · exact w_1
    · exact w_2
    · exact w_3
    )) (by decide) dX0_setGrinder_1 ?_
  have qw_1 := ti_ne (n := 0) (by decide) w_1
  have qw_2 := ti_ne (n := 1) (by decide) w_2
  have qw_3 := ti_ne (n := 2) (by decide) w_3
  refine j_aload_n X 0 rfl rfl dX0_setGrinder_64 ?_
  refine j_get X (by decide) (wE_0 _ rfl) rfl awF0 8 (by decide) aw_126 rfl (v := .int (M 12 8)) rfl dX0_setGrinder_65 ?_
  refine j_eqi (v := 0) hz.2.2.2.2.2.1 ?_
  refine j_istore_n X [(3, .int 0), (0, .ref (ad 12)), (1, .int what), (2, .int v)] rfl (by decide) rfl dX0_setGrinder_68 ?_
  refine j_aload_n X 1 rfl rfl dX0_setGrinder_69 ?_
  refine j_iload_n X 3 rfl rfl dX0_setGrinder_70 ?_
  refine j_put X (up M 12 8 v) up_o (by decide) (wE_0 _ rfl) rfl awF0 8 (by decide) (wP_0_8 _ _ rfl) tyX0 tyX0_ok nmX0 rfl (ty := .int) (by decide +kernel) rfl rfl (Nat.le_of_ble_eq_true rfl) aw_126 rfl dX0_setGrinder_71 ?_
  refine j_iload_n X 0 rfl rfl dX0_setGrinder_74 ?_
  exact j_iret X hr hlocks dX0_setGrinder_75 (Or.inr (Or.inr (Or.inr ⟨by omega, rfl, (sm_up sm_rf rfl)⟩)))
set_option maxRecDepth 100000 in
set_option maxHeartbeats 4000000 in
theorem c_isQuarrel0 (l : Launch) (D : va_G) (y : wY) (ad : Nat → Nat) (M : Mem) (hm : M 12 3 = 0) (q : Int32) : MI l D y ad yX7_isQuarrel (Cond.code yX7_isQuarrel cX7_isQuarrel 2 (some .boolean)) 1 M [.ref (ad 0), .int q] (fun r M' => 0 = r ∧ M = M') := by
  refine MI_of (by decide) (Nat.le_of_ble_eq_true rfl) ?_
  intro p e s m args below meth c X hr hlocks
  refine j_lv (lv1 := [(0, .ref (ad 0)), (1, .int q)]) [0, 1] rfl ?_
  refine j_iload_n X 1 rfl rfl dX7_isQuarrel_0 ?_
  refine j_iconst X (v := 0) (by decide) dX7_isQuarrel_1 ?_
  refine j_aload_n X 0 rfl rfl dX7_isQuarrel_2 ?_
  refine j_get X (by decide) (wE_7 _ rfl) rfl awF7 0 (by decide) aw_16 rfl (v := .ref (ad 1)) rfl dX7_isQuarrel_3 ?_
  refine j_getN X (by decide) (wE_6 _ rfl) rfl awF6 2 (by decide) (List.mem_of_getElem? (i := 23) rfl) rfl (v := .ref (ad 12)) rfl dX7_isQuarrel_6 ?_
  refine j_getN X (by decide) (wE_0 _ rfl) rfl awF0 3 (by decide) (List.mem_of_getElem? (i := 15) rfl) rfl (v := .int (M 12 3)) rfl dX7_isQuarrel_9 ?_
  refine j_eqi (v := 0) hm ?_
  refine j_iconst X (v := 1) (by decide) dX7_isQuarrel_12 ?_
  refine j_isub X dX7_isQuarrel_13 ?_
  refine j_eqi (v := (-1)) (by decide) ?_
  refine j_callSI X (nn := 3) (As := [.int q, .int 0, .int (-1)]) (st := []) aw_110 (c_X7_isWithin l D y ad M q 0 (-1) 0 (-1) (by decide) (by decide)) aw_109 aw_111 aw_2 (by decide +kernel) ⟨by decide, by decide⟩ rfl (Nat.le_of_ble_eq_true rfl) ⟨by decide, by decide⟩ dX7_isQuarrel_14 ?_
  rintro r_ M1_ (⟨rfl, rfl, h_1⟩ | ⟨rfl, rfl, h_1⟩)
  · exfalso; omega
  · exact j_zret X hr hlocks (Or.inl rfl) dX7_isQuarrel_17 ⟨rfl, rfl⟩
set_option maxRecDepth 100000 in
set_option maxHeartbeats 4000000 in
theorem c_X7_isKindAndM (l : Launch) (D : va_G) (y : wY) (ad : Nat → Nat) (M : Mem) (v : Int32) : MI l D y ad yX7_isKindAndM (Cond.code yX7_isKindAndM cX7_isKindAndM 1 (some .boolean)) 1 M [.int v] (fun r M' => (1 = r ∧ M = M' ∧ 0 ≤ v.toInt ∧ v.toInt ≤ 69) ∨ (0 = r ∧ M = M' ∧ ¬ (0 ≤ v.toInt ∧ v.toInt ≤ 69))) := by
  refine MI_of (by decide) (Nat.le_of_ble_eq_true rfl) ?_
  intro p e s m args below meth c X hr hlocks
  refine j_lv (lv1 := [(0, .int v)]) [0] rfl ?_
  refine j_iload_n X 0 rfl rfl dX7_isKindAndM_0 ?_
  refine j_iconst X (v := 0) (by decide) dX7_isKindAndM_1 ?_
  refine j_bipush X (v := 69) (by decide) dX7_isKindAndM_2 ?_
  refine j_callSI X (nn := 3) (As := [.int v, .int 0, .int 69]) (st := []) aw_110 (c_X7_isWithin l D y ad M v 0 69 0 69 (by decide) (by decide)) aw_109 aw_111 aw_2 (by decide +kernel) ⟨by decide, by decide⟩ rfl (Nat.le_of_ble_eq_true rfl) ⟨by decide, by decide⟩ dX7_isKindAndM_4 ?_
  rintro r_ M1_ (⟨rfl, rfl, h_1⟩ | ⟨rfl, rfl, h_1⟩)
  · exact j_zret X hr hlocks (Or.inr rfl) dX7_isKindAndM_7 (Or.inl ⟨rfl, rfl, h_1⟩)
  · exact j_zret X hr hlocks (Or.inl rfl) dX7_isKindAndM_7 (Or.inr ⟨rfl, rfl, h_1⟩)
set_option maxRecDepth 100000 in
set_option maxHeartbeats 4000000 in
theorem c_X7_isSheet (l : Launch) (D : va_G) (y : wY) (ad : Nat → Nat) (M : Mem) (v : Int32) : MI l D y ad yX7_isSheet (Cond.code yX7_isSheet cX7_isSheet 1 (some .boolean)) 1 M [.int v] (fun r M' => (1 = r ∧ M = M' ∧ 0 ≤ v.toInt ∧ v.toInt ≤ 3) ∨ (0 = r ∧ M = M' ∧ ¬ (0 ≤ v.toInt ∧ v.toInt ≤ 3))) := by
  refine MI_of (by decide) (Nat.le_of_ble_eq_true rfl) ?_
  intro p e s m args below meth c X hr hlocks
  refine j_lv (lv1 := [(0, .int v)]) [0] rfl ?_
  refine j_iload_n X 0 rfl rfl dX7_isSheet_0 ?_
  refine j_iconst X (v := 0) (by decide) dX7_isSheet_1 ?_
  refine j_iconst X (v := 3) (by decide) dX7_isSheet_2 ?_
  refine j_callSI X (nn := 3) (As := [.int v, .int 0, .int 3]) (st := []) aw_110 (c_X7_isWithin l D y ad M v 0 3 0 3 (by decide) (by decide)) aw_109 aw_111 aw_2 (by decide +kernel) ⟨by decide, by decide⟩ rfl (Nat.le_of_ble_eq_true rfl) ⟨by decide, by decide⟩ dX7_isSheet_3 ?_
  rintro r_ M1_ (⟨rfl, rfl, h_1⟩ | ⟨rfl, rfl, h_1⟩)
  · exact j_zret X hr hlocks (Or.inr rfl) dX7_isSheet_6 (Or.inl ⟨rfl, rfl, h_1⟩)
  · exact j_zret X hr hlocks (Or.inl rfl) dX7_isSheet_6 (Or.inr ⟨rfl, rfl, h_1⟩)
set_option maxRecDepth 100000 in
set_option maxHeartbeats 4000000 in
theorem c0_X7_ofQuarrel (l : Launch) (D : va_G) (y : wY) (ad : Nat → Nat) (M : Mem) (hz : Z0 M) (q what : Int32) : MI l D y ad yX7_ofQuarrel (Cond.code yX7_ofQuarrel cX7_ofQuarrel 4 (some .int)) 6 M [.ref (ad 0), .int q, .int what] (fun r M' => sp_ofQuarrel q what = r ∧ sm (fun b _ => decide (b < 79)) M M') := by
  refine MI_of (by decide) (Nat.le_of_ble_eq_true rfl) ?_
  intro p e s m args below meth c X hr hlocks
  refine j_lv (lv1 := [(0, .ref (ad 0)), (1, .int q), (2, .int what)]) [0, 1, 2] rfl ?_
  refine j_aload_n X 0 rfl rfl dX7_ofQuarrel_0 ?_
  refine j_iload_n X 1 rfl rfl dX7_ofQuarrel_1 ?_
  refine j_callVI X (nn := 1) (As := [.int q]) (st := []) (ci := 7) (by decide) (wE_7 _ rfl) rfl aw_191 aw_192 (c_isQuarrel0 l D y ad M hz.1 q) aw_190 aw_193 aw_2 (by decide +kernel) ⟨by decide, by decide⟩ rfl (Nat.le_of_ble_eq_true rfl) ⟨by decide, by decide⟩ dX7_ofQuarrel_2 ?_
  rintro r_ M1_ ⟨rfl, rfl⟩
  refine j_if_eq X 18 (by decide) dX7_ofQuarrel_5 (fun c_1 => ?_) (fun c_1 => False.elim (by revert c_1; decide))
  refine j_aload_n X 0 rfl rfl dX7_ofQuarrel_18 ?_
  refine j_ldc X (v := (-1000000001)) aw_108 dX7_ofQuarrel_19 ?_
  refine j_callVI X (nn := 1) (As := [.int (-1000000001)]) (st := []) (ci := 7) (by decide) (wE_7 _ rfl) rfl aw_117 aw_118 (c_X7_refuse l D y ad M (-1000000001) 1 (by decide) (by decide)) aw_116 aw_119 aw_2 (by decide +kernel) ⟨by decide, by decide⟩ rfl (Nat.le_of_ble_eq_true rfl) ⟨by decide, by decide⟩ dX7_ofQuarrel_21 ?_
  rintro r_ M1_ ⟨rfl, rfl⟩
  exact j_iret X hr hlocks dX7_ofQuarrel_24 ⟨(by unfold sp_ofQuarrel; (repeat' split) <;> first | rfl | omega | (exfalso; omega)), (sm_up sm_rf rfl)⟩
set_option maxRecDepth 100000 in
set_option maxHeartbeats 4000000 in
theorem c0_X7_change (l : Launch) (D : va_G) (y : wY) (ad : Nat → Nat) (M : Mem) (hz : Z0 M) (q what v : Int32) : MI l D y ad yX7_change (Cond.code yX7_change cX7_change 4 (some .int)) 6 M [.ref (ad 0), .int q, .int what, .int v] (fun r M' => sp_change q what v = r ∧ sm (fun b _ => decide (b < 79)) M M') := by
  refine MI_of (by decide) (Nat.le_of_ble_eq_true rfl) ?_
  intro p e s m args below meth c X hr hlocks
  refine j_lv (lv1 := [(0, .ref (ad 0)), (1, .int q), (2, .int what), (3, .int v)]) [0, 1, 2, 3] rfl ?_
  refine j_aload_n X 0 rfl rfl dX7_change_0 ?_
  refine j_iload_n X 1 rfl rfl dX7_change_1 ?_
  refine j_callVI X (nn := 1) (As := [.int q]) (st := []) (ci := 7) (by decide) (wE_7 _ rfl) rfl aw_191 aw_192 (c_isQuarrel0 l D y ad M hz.1 q) aw_190 aw_193 aw_2 (by decide +kernel) ⟨by decide, by decide⟩ rfl (Nat.le_of_ble_eq_true rfl) ⟨by decide, by decide⟩ dX7_change_2 ?_
  rintro r_ M1_ ⟨rfl, rfl⟩
  refine j_if_eq X 29 (by decide) dX7_change_5 (fun c_1 => ?_) (fun c_1 => False.elim (by revert c_1; decide))
  refine j_aload_n X 0 rfl rfl dX7_change_29 ?_
  refine j_ldc X (v := (-1000000001)) aw_108 dX7_change_30 ?_
  refine j_callVI X (nn := 1) (As := [.int (-1000000001)]) (st := []) (ci := 7) (by decide) (wE_7 _ rfl) rfl aw_117 aw_118 (c_X7_refuse l D y ad M (-1000000001) 1 (by decide) (by decide)) aw_116 aw_119 aw_2 (by decide +kernel) ⟨by decide, by decide⟩ rfl (Nat.le_of_ble_eq_true rfl) ⟨by decide, by decide⟩ dX7_change_32 ?_
  rintro r_ M1_ ⟨rfl, rfl⟩
  exact j_iret X hr hlocks dX7_change_35 ⟨(by unfold sp_change; (repeat' split) <;> first | rfl | omega | (exfalso; omega)), (sm_up sm_rf rfl)⟩
set_option maxRecDepth 100000 in
set_option maxHeartbeats 4000000 in
theorem c0_X7_become (l : Launch) (D : va_G) (y : wY) (ad : Nat → Nat) (M : Mem) (hz : Z0 M) (q km : Int32) : MI l D y ad yX7_become (Cond.code yX7_become cX7_become 5 (some .int)) 6 M [.ref (ad 0), .int q, .int km] (fun r M' => sp_become q km = r ∧ sm (fun b _ => decide (b < 79)) M M') := by
  refine MI_of (by decide) (Nat.le_of_ble_eq_true rfl) ?_
  intro p e s m args below meth c X hr hlocks
  refine j_lv (lv1 := [(0, .ref (ad 0)), (1, .int q), (2, .int km)]) [0, 1, 2] rfl ?_
  refine j_aload_n X 0 rfl rfl dX7_become_0 ?_
  refine j_iload_n X 1 rfl rfl dX7_become_1 ?_
  refine j_callVI X (nn := 1) (As := [.int q]) (st := []) (ci := 7) (by decide) (wE_7 _ rfl) rfl aw_191 aw_192 (c_isQuarrel0 l D y ad M hz.1 q) aw_190 aw_193 aw_2 (by decide +kernel) ⟨by decide, by decide⟩ rfl (Nat.le_of_ble_eq_true rfl) ⟨by decide, by decide⟩ dX7_become_2 ?_
  rintro r_ M1_ ⟨rfl, rfl⟩
  refine j_if_eq X 15 (by decide) dX7_become_5 (fun c_1 => ?_) (fun c_1 => False.elim (by revert c_1; decide))
  refine j_aload_n X 0 rfl rfl dX7_become_15 ?_
  refine j_ldc X (v := (-1000000001)) aw_108 dX7_become_16 ?_
  refine j_callVI X (nn := 1) (As := [.int (-1000000001)]) (st := []) (ci := 7) (by decide) (wE_7 _ rfl) rfl aw_117 aw_118 (c_X7_refuse l D y ad M (-1000000001) 1 (by decide) (by decide)) aw_116 aw_119 aw_2 (by decide +kernel) ⟨by decide, by decide⟩ rfl (Nat.le_of_ble_eq_true rfl) ⟨by decide, by decide⟩ dX7_become_18 ?_
  rintro r_ M1_ ⟨rfl, rfl⟩
  exact j_iret X hr hlocks dX7_become_21 ⟨(by unfold sp_become; (repeat' split) <;> first | rfl | omega | (exfalso; omega)), (sm_up sm_rf rfl)⟩
set_option maxRecDepth 100000 in
set_option maxHeartbeats 4000000 in
theorem c0_X7_as (l : Launch) (D : va_G) (y : wY) (ad : Nat → Nat) (M : Mem) (hz : Z0 M) (q kind : Int32) : MI l D y ad yX7_as (Cond.code yX7_as cX7_as 4 (some .int)) 6 M [.ref (ad 0), .int q, .int kind] (fun r M' => sp_as q kind = r ∧ sm (fun b _ => decide (b < 79)) M M') := by
  refine MI_of (by decide) (Nat.le_of_ble_eq_true rfl) ?_
  intro p e s m args below meth c X hr hlocks
  refine j_lv (lv1 := [(0, .ref (ad 0)), (1, .int q), (2, .int kind)]) [0, 1, 2] rfl ?_
  refine j_aload_n X 0 rfl rfl dX7_as_0 ?_
  refine j_iload_n X 1 rfl rfl dX7_as_1 ?_
  refine j_callVI X (nn := 1) (As := [.int q]) (st := []) (ci := 7) (by decide) (wE_7 _ rfl) rfl aw_191 aw_192 (c_isQuarrel0 l D y ad M hz.1 q) aw_190 aw_193 aw_2 (by decide +kernel) ⟨by decide, by decide⟩ rfl (Nat.le_of_ble_eq_true rfl) ⟨by decide, by decide⟩ dX7_as_2 ?_
  rintro r_ M1_ ⟨rfl, rfl⟩
  refine j_if_eq X 18 (by decide) dX7_as_5 (fun c_1 => ?_) (fun c_1 => False.elim (by revert c_1; decide))
  refine j_aload_n X 0 rfl rfl dX7_as_18 ?_
  refine j_ldc X (v := (-1000000001)) aw_108 dX7_as_19 ?_
  refine j_callVI X (nn := 1) (As := [.int (-1000000001)]) (st := []) (ci := 7) (by decide) (wE_7 _ rfl) rfl aw_117 aw_118 (c_X7_refuse l D y ad M (-1000000001) 1 (by decide) (by decide)) aw_116 aw_119 aw_2 (by decide +kernel) ⟨by decide, by decide⟩ rfl (Nat.le_of_ble_eq_true rfl) ⟨by decide, by decide⟩ dX7_as_21 ?_
  rintro r_ M1_ ⟨rfl, rfl⟩
  exact j_iret X hr hlocks dX7_as_24 ⟨(by unfold sp_as; (repeat' split) <;> first | rfl | omega | (exfalso; omega)), (sm_up sm_rf rfl)⟩
set_option maxRecDepth 100000 in
set_option maxHeartbeats 4000000 in
theorem c0_X7_when (l : Launch) (D : va_G) (y : wY) (ad : Nat → Nat) (M : Mem) (hz : Z0 M) (q : Int32) : MI l D y ad yX7_when (Cond.code yX7_when cX7_when 3 (some .int)) 6 M [.ref (ad 0), .int q] (fun r M' => sp_when q = r ∧ sm (fun b _ => decide (b < 79)) M M') := by
  refine MI_of (by decide) (Nat.le_of_ble_eq_true rfl) ?_
  intro p e s m args below meth c X hr hlocks
  refine j_lv (lv1 := [(0, .ref (ad 0)), (1, .int q)]) [0, 1] rfl ?_
  refine j_aload_n X 0 rfl rfl dX7_when_0 ?_
  refine j_iload_n X 1 rfl rfl dX7_when_1 ?_
  refine j_callVI X (nn := 1) (As := [.int q]) (st := []) (ci := 7) (by decide) (wE_7 _ rfl) rfl aw_191 aw_192 (c_isQuarrel0 l D y ad M hz.1 q) aw_190 aw_193 aw_2 (by decide +kernel) ⟨by decide, by decide⟩ rfl (Nat.le_of_ble_eq_true rfl) ⟨by decide, by decide⟩ dX7_when_2 ?_
  rintro r_ M1_ ⟨rfl, rfl⟩
  refine j_if_ne X 15 (by decide) dX7_when_5 (fun c_1 => False.elim (by revert c_1; decide)) (fun c_1 => ?_)
  refine j_aload_n X 0 rfl rfl dX7_when_8 ?_
  refine j_ldc X (v := (-1000000001)) aw_108 dX7_when_9 ?_
  refine j_callVI X (nn := 1) (As := [.int (-1000000001)]) (st := []) (ci := 7) (by decide) (wE_7 _ rfl) rfl aw_117 aw_118 (c_X7_refuse l D y ad M (-1000000001) 1 (by decide) (by decide)) aw_116 aw_119 aw_2 (by decide +kernel) ⟨by decide, by decide⟩ rfl (Nat.le_of_ble_eq_true rfl) ⟨by decide, by decide⟩ dX7_when_11 ?_
  rintro r_ M1_ ⟨rfl, rfl⟩
  exact j_iret X hr hlocks dX7_when_14 ⟨(by unfold sp_when; (repeat' split) <;> first | rfl | omega | (exfalso; omega)), (sm_up sm_rf rfl)⟩
set_option maxRecDepth 100000 in
set_option maxHeartbeats 4000000 in
theorem c0_X7_chain (l : Launch) (D : va_G) (y : wY) (ad : Nat → Nat) (M : Mem) (hz : Z0 M) (q : Int32) : MI l D y ad yX7_chain (Cond.code yX7_chain cX7_chain 2 (some .int)) 6 M [.ref (ad 0), .int q] (fun r M' => sp_chain q = r ∧ sm (fun b _ => decide (b < 79)) M M') := by
  refine MI_of (by decide) (Nat.le_of_ble_eq_true rfl) ?_
  intro p e s m args below meth c X hr hlocks
  refine j_lv (lv1 := [(0, .ref (ad 0)), (1, .int q)]) [0, 1] rfl ?_
  refine j_aload_n X 0 rfl rfl dX7_chain_0 ?_
  refine j_iload_n X 1 rfl rfl dX7_chain_1 ?_
  refine j_callVI X (nn := 1) (As := [.int q]) (st := []) (ci := 7) (by decide) (wE_7 _ rfl) rfl aw_191 aw_192 (c_isQuarrel0 l D y ad M hz.1 q) aw_190 aw_193 aw_2 (by decide +kernel) ⟨by decide, by decide⟩ rfl (Nat.le_of_ble_eq_true rfl) ⟨by decide, by decide⟩ dX7_chain_2 ?_
  rintro r_ M1_ ⟨rfl, rfl⟩
  refine j_if_ne X 15 (by decide) dX7_chain_5 (fun c_1 => False.elim (by revert c_1; decide)) (fun c_1 => ?_)
  refine j_aload_n X 0 rfl rfl dX7_chain_8 ?_
  refine j_ldc X (v := (-1000000001)) aw_108 dX7_chain_9 ?_
  refine j_callVI X (nn := 1) (As := [.int (-1000000001)]) (st := []) (ci := 7) (by decide) (wE_7 _ rfl) rfl aw_117 aw_118 (c_X7_refuse l D y ad M (-1000000001) 1 (by decide) (by decide)) aw_116 aw_119 aw_2 (by decide +kernel) ⟨by decide, by decide⟩ rfl (Nat.le_of_ble_eq_true rfl) ⟨by decide, by decide⟩ dX7_chain_11 ?_
  rintro r_ M1_ ⟨rfl, rfl⟩
  exact j_iret X hr hlocks dX7_chain_14 ⟨(by unfold sp_chain; (repeat' split) <;> first | rfl | omega | (exfalso; omega)), (sm_up sm_rf rfl)⟩
set_option maxRecDepth 100000 in
set_option maxHeartbeats 4000000 in
theorem c0_X7_hand (l : Launch) (D : va_G) (y : wY) (ad : Nat → Nat) (M : Mem) (hz : Z0 M) (q n : Int32) : MI l D y ad yX7_hand (Cond.code yX7_hand cX7_hand 7 (some .int)) 6 M [.ref (ad 0), .int q, .int n] (fun r M' => sp_hand q n = r ∧ sm (fun b _ => decide (b < 79)) M M') := by
  refine MI_of (by decide) (Nat.le_of_ble_eq_true rfl) ?_
  intro p e s m args below meth c X hr hlocks
  refine j_lv (lv1 := [(0, .ref (ad 0)), (1, .int q), (2, .int n)]) [0, 1, 2] rfl ?_
  refine j_aload_n X 0 rfl rfl dX7_hand_0 ?_
  refine j_iload_n X 1 rfl rfl dX7_hand_1 ?_
  refine j_callVI X (nn := 1) (As := [.int q]) (st := []) (ci := 7) (by decide) (wE_7 _ rfl) rfl aw_191 aw_192 (c_isQuarrel0 l D y ad M hz.1 q) aw_190 aw_193 aw_2 (by decide +kernel) ⟨by decide, by decide⟩ rfl (Nat.le_of_ble_eq_true rfl) ⟨by decide, by decide⟩ dX7_hand_2 ?_
  rintro r_ M1_ ⟨rfl, rfl⟩
  refine j_if_eq X 18 (by decide) dX7_hand_5 (fun c_1 => ?_) (fun c_1 => False.elim (by revert c_1; decide))
  refine j_aload_n X 0 rfl rfl dX7_hand_18 ?_
  refine j_ldc X (v := (-1000000001)) aw_108 dX7_hand_19 ?_
  refine j_callVI X (nn := 1) (As := [.int (-1000000001)]) (st := []) (ci := 7) (by decide) (wE_7 _ rfl) rfl aw_117 aw_118 (c_X7_refuse l D y ad M (-1000000001) 1 (by decide) (by decide)) aw_116 aw_119 aw_2 (by decide +kernel) ⟨by decide, by decide⟩ rfl (Nat.le_of_ble_eq_true rfl) ⟨by decide, by decide⟩ dX7_hand_21 ?_
  rintro r_ M1_ ⟨rfl, rfl⟩
  exact j_iret X hr hlocks dX7_hand_24 ⟨(by unfold sp_hand; (repeat' split) <;> first | rfl | omega | (exfalso; omega)), (sm_up sm_rf rfl)⟩
set_option maxRecDepth 100000 in
set_option maxHeartbeats 4000000 in
theorem c0_X7_sharp (l : Launch) (D : va_G) (y : wY) (ad : Nat → Nat) (M : Mem) (hz : Z0 M) (q n : Int32) : MI l D y ad yX7_sharp (Cond.code yX7_sharp cX7_sharp 4 (some .int)) 6 M [.ref (ad 0), .int q, .int n] (fun r M' => sp_sharp q n = r ∧ sm (fun b _ => decide (b < 79)) M M') := by
  refine MI_of (by decide) (Nat.le_of_ble_eq_true rfl) ?_
  intro p e s m args below meth c X hr hlocks
  refine j_lv (lv1 := [(0, .ref (ad 0)), (1, .int q), (2, .int n)]) [0, 1, 2] rfl ?_
  refine j_aload_n X 0 rfl rfl dX7_sharp_0 ?_
  refine j_iload_n X 1 rfl rfl dX7_sharp_1 ?_
  refine j_callVI X (nn := 1) (As := [.int q]) (st := []) (ci := 7) (by decide) (wE_7 _ rfl) rfl aw_191 aw_192 (c_isQuarrel0 l D y ad M hz.1 q) aw_190 aw_193 aw_2 (by decide +kernel) ⟨by decide, by decide⟩ rfl (Nat.le_of_ble_eq_true rfl) ⟨by decide, by decide⟩ dX7_sharp_2 ?_
  rintro r_ M1_ ⟨rfl, rfl⟩
  refine j_if_eq X 18 (by decide) dX7_sharp_5 (fun c_1 => ?_) (fun c_1 => False.elim (by revert c_1; decide))
  refine j_aload_n X 0 rfl rfl dX7_sharp_18 ?_
  refine j_ldc X (v := (-1000000001)) aw_108 dX7_sharp_19 ?_
  refine j_callVI X (nn := 1) (As := [.int (-1000000001)]) (st := []) (ci := 7) (by decide) (wE_7 _ rfl) rfl aw_117 aw_118 (c_X7_refuse l D y ad M (-1000000001) 1 (by decide) (by decide)) aw_116 aw_119 aw_2 (by decide +kernel) ⟨by decide, by decide⟩ rfl (Nat.le_of_ble_eq_true rfl) ⟨by decide, by decide⟩ dX7_sharp_21 ?_
  rintro r_ M1_ ⟨rfl, rfl⟩
  exact j_iret X hr hlocks dX7_sharp_24 ⟨(by unfold sp_sharp; (repeat' split) <;> first | rfl | omega | (exfalso; omega)), (sm_up sm_rf rfl)⟩
set_option maxRecDepth 100000 in
set_option maxHeartbeats 4000000 in
theorem c0_X7_odds (l : Launch) (D : va_G) (y : wY) (ad : Nat → Nat) (M : Mem) (hz : Z0 M) (q n part : Int32) : MI l D y ad yX7_odds (Cond.code yX7_odds cX7_odds 6 (some .int)) 6 M [.ref (ad 0), .int q, .int n, .int part] (fun r M' => sp_odds q n part = r ∧ sm (fun b _ => decide (b < 79)) M M') := by
  refine MI_of (by decide) (Nat.le_of_ble_eq_true rfl) ?_
  intro p e s m args below meth c X hr hlocks
  refine j_lv (lv1 := [(0, .ref (ad 0)), (1, .int q), (2, .int n), (3, .int part)]) [0, 1, 2, 3] rfl ?_
  refine j_aload_n X 0 rfl rfl dX7_odds_0 ?_
  refine j_iload_n X 1 rfl rfl dX7_odds_1 ?_
  refine j_callVI X (nn := 1) (As := [.int q]) (st := []) (ci := 7) (by decide) (wE_7 _ rfl) rfl aw_191 aw_192 (c_isQuarrel0 l D y ad M hz.1 q) aw_190 aw_193 aw_2 (by decide +kernel) ⟨by decide, by decide⟩ rfl (Nat.le_of_ble_eq_true rfl) ⟨by decide, by decide⟩ dX7_odds_2 ?_
  rintro r_ M1_ ⟨rfl, rfl⟩
  refine j_if_eq X 27 (by decide) dX7_odds_5 (fun c_1 => ?_) (fun c_1 => False.elim (by revert c_1; decide))
  refine j_aload_n X 0 rfl rfl dX7_odds_27 ?_
  refine j_ldc X (v := (-1000000001)) aw_108 dX7_odds_28 ?_
  refine j_callVI X (nn := 1) (As := [.int (-1000000001)]) (st := []) (ci := 7) (by decide) (wE_7 _ rfl) rfl aw_117 aw_118 (c_X7_refuse l D y ad M (-1000000001) 1 (by decide) (by decide)) aw_116 aw_119 aw_2 (by decide +kernel) ⟨by decide, by decide⟩ rfl (Nat.le_of_ble_eq_true rfl) ⟨by decide, by decide⟩ dX7_odds_30 ?_
  rintro r_ M1_ ⟨rfl, rfl⟩
  exact j_iret X hr hlocks dX7_odds_33 ⟨(by unfold sp_odds; (repeat' split) <;> first | rfl | omega | (exfalso; omega)), (sm_up sm_rf rfl)⟩
set_option maxRecDepth 100000 in
set_option maxHeartbeats 4000000 in
theorem c0_X7_voice (l : Launch) (D : va_G) (y : wY) (ad : Nat → Nat) (M : Mem) (hz : Z0 M) (q act x : Int32) : MI l D y ad yX7_voice (Cond.code yX7_voice cX7_voice 5 (some .int)) 6 M [.ref (ad 0), .int q, .int act, .int x] (fun r M' => sp_voice q act x = r ∧ sm (fun b _ => decide (b < 79)) M M') := by
  refine MI_of (by decide) (Nat.le_of_ble_eq_true rfl) ?_
  intro p e s m args below meth c X hr hlocks
  refine j_lv (lv1 := [(0, .ref (ad 0)), (1, .int q), (2, .int act), (3, .int x)]) [0, 1, 2, 3] rfl ?_
  refine j_aload_n X 0 rfl rfl dX7_voice_0 ?_
  refine j_iload_n X 1 rfl rfl dX7_voice_1 ?_
  refine j_callVI X (nn := 1) (As := [.int q]) (st := []) (ci := 7) (by decide) (wE_7 _ rfl) rfl aw_191 aw_192 (c_isQuarrel0 l D y ad M hz.1 q) aw_190 aw_193 aw_2 (by decide +kernel) ⟨by decide, by decide⟩ rfl (Nat.le_of_ble_eq_true rfl) ⟨by decide, by decide⟩ dX7_voice_2 ?_
  rintro r_ M1_ ⟨rfl, rfl⟩
  refine j_if_eq X 17 (by decide) dX7_voice_5 (fun c_1 => ?_) (fun c_1 => False.elim (by revert c_1; decide))
  refine j_aload_n X 0 rfl rfl dX7_voice_17 ?_
  refine j_ldc X (v := (-1000000001)) aw_108 dX7_voice_18 ?_
  refine j_callVI X (nn := 1) (As := [.int (-1000000001)]) (st := []) (ci := 7) (by decide) (wE_7 _ rfl) rfl aw_117 aw_118 (c_X7_refuse l D y ad M (-1000000001) 1 (by decide) (by decide)) aw_116 aw_119 aw_2 (by decide +kernel) ⟨by decide, by decide⟩ rfl (Nat.le_of_ble_eq_true rfl) ⟨by decide, by decide⟩ dX7_voice_20 ?_
  rintro r_ M1_ ⟨rfl, rfl⟩
  exact j_iret X hr hlocks dX7_voice_23 ⟨(by unfold sp_voice; (repeat' split) <;> first | rfl | omega | (exfalso; omega)), (sm_up sm_rf rfl)⟩
set_option maxRecDepth 100000 in
set_option maxHeartbeats 4000000 in
theorem c0_X7_then (l : Launch) (D : va_G) (y : wY) (ad : Nat → Nat) (M : Mem) (hz : Z0 M) (n q what : Int32) : MI l D y ad yX7_then (Cond.code yX7_then cX7_then 5 (some .int)) 6 M [.ref (ad 0), .int n, .int q, .int what] (fun r M' => sp_then n q what = r ∧ sm (fun b _ => decide (b < 79)) M M') := by
  refine MI_of (by decide) (Nat.le_of_ble_eq_true rfl) ?_
  intro p e s m args below meth c X hr hlocks
  refine j_lv (lv1 := [(0, .ref (ad 0)), (1, .int n), (2, .int q), (3, .int what)]) [0, 1, 2, 3] rfl ?_
  refine j_iload_n X 1 rfl rfl dX7_then_0 ?_
  refine j_iconst X (v := 0) (by decide) dX7_then_1 ?_
  refine j_bipush X (v := 60) (by decide) dX7_then_2 ?_
  refine j_callSI X (nn := 3) (As := [.int n, .int 0, .int 60]) (st := []) aw_110 (c_X7_isWithin l D y ad M n 0 60 0 60 (by decide) (by decide)) aw_109 aw_111 aw_2 (by decide +kernel) ⟨by decide, by decide⟩ rfl (Nat.le_of_ble_eq_true rfl) ⟨by decide, by decide⟩ dX7_then_4 ?_
  rintro r_ M1_ (⟨rfl, rfl, h_1⟩ | ⟨rfl, rfl, h_1⟩)
  · refine j_if_eq X 27 (by decide) dX7_then_7 (fun c_2 => False.elim (by revert c_2; decide)) (fun c_2 => ?_)
    refine j_aload_n X 0 rfl rfl dX7_then_10 ?_
    refine j_iload_n X 2 rfl rfl dX7_then_11 ?_
    refine j_callVI X (nn := 1) (As := [.int q]) (st := []) (ci := 7) (by decide) (wE_7 _ rfl) rfl aw_191 aw_192 (c_isQuarrel0 l D y ad M hz.1 q) aw_190 aw_193 aw_2 (by decide +kernel) ⟨by decide, by decide⟩ rfl (Nat.le_of_ble_eq_true rfl) ⟨by decide, by decide⟩ dX7_then_12 ?_
    rintro r_ M1_ ⟨rfl, rfl⟩
    refine j_if_eq X 27 (by decide) dX7_then_15 (fun c_3 => ?_) (fun c_3 => False.elim (by revert c_3; decide))
    refine j_aload_n X 0 rfl rfl dX7_then_27 ?_
    refine j_ldc X (v := (-1000000001)) aw_108 dX7_then_28 ?_
    refine j_callVI X (nn := 1) (As := [.int (-1000000001)]) (st := []) (ci := 7) (by decide) (wE_7 _ rfl) rfl aw_117 aw_118 (c_X7_refuse l D y ad M (-1000000001) 1 (by decide) (by decide)) aw_116 aw_119 aw_2 (by decide +kernel) ⟨by decide, by decide⟩ rfl (Nat.le_of_ble_eq_true rfl) ⟨by decide, by decide⟩ dX7_then_30 ?_
    rintro r_ M1_ ⟨rfl, rfl⟩
    exact j_iret X hr hlocks dX7_then_33 ⟨(by unfold sp_then; (repeat' split) <;> first | rfl | omega | (exfalso; omega)), (sm_up sm_rf rfl)⟩
  · refine j_if_eq X 27 (by decide) dX7_then_7 (fun c_4 => ?_) (fun c_4 => False.elim (by revert c_4; decide))
    refine j_aload_n X 0 rfl rfl dX7_then_27 ?_
    refine j_ldc X (v := (-1000000001)) aw_108 dX7_then_28 ?_
    refine j_callVI X (nn := 1) (As := [.int (-1000000001)]) (st := []) (ci := 7) (by decide) (wE_7 _ rfl) rfl aw_117 aw_118 (c_X7_refuse l D y ad M (-1000000001) 1 (by decide) (by decide)) aw_116 aw_119 aw_2 (by decide +kernel) ⟨by decide, by decide⟩ rfl (Nat.le_of_ble_eq_true rfl) ⟨by decide, by decide⟩ dX7_then_30 ?_
    rintro r_ M1_ ⟨rfl, rfl⟩
    exact j_iret X hr hlocks dX7_then_33 ⟨(by unfold sp_then; (repeat' split) <;> first | rfl | omega | (exfalso; omega)), (sm_up sm_rf rfl)⟩
set_option maxRecDepth 100000 in
set_option maxHeartbeats 4000000 in
theorem c0_X7_inArea (l : Launch) (D : va_G) (y : wY) (ad : Nat → Nat) (M : Mem) (hz : Z0 M) (a : Int32) : MI l D y ad yX7_inArea (Cond.code yX7_inArea cX7_inArea 2 (some .int)) 6 M [.ref (ad 0), .int a] (fun r M' => sp_inArea a = r ∧ sm (fun b _ => decide (b < 79)) M M') := by
  refine MI_of (by decide) (Nat.le_of_ble_eq_true rfl) ?_
  intro p e s m args below meth c X hr hlocks
  refine j_lv (lv1 := [(0, .ref (ad 0)), (1, .int a)]) [0, 1] rfl ?_
  refine j_iload_n X 1 rfl rfl dX7_inArea_0 ?_
  refine j_iconst X (v := 0) (by decide) dX7_inArea_1 ?_
  refine j_bipush X (v := 9) (by decide) dX7_inArea_2 ?_
  refine j_callSI X (nn := 3) (As := [.int a, .int 0, .int 9]) (st := []) aw_110 (c_X7_isWithin l D y ad M a 0 9 0 9 (by decide) (by decide)) aw_109 aw_111 aw_2 (by decide +kernel) ⟨by decide, by decide⟩ rfl (Nat.le_of_ble_eq_true rfl) ⟨by decide, by decide⟩ dX7_inArea_4 ?_
  rintro r_ M1_ (⟨rfl, rfl, h_1⟩ | ⟨rfl, rfl, h_1⟩)
  · refine j_if_ne X 17 (by decide) dX7_inArea_7 (fun c_2 => ?_) (fun c_2 => False.elim (by revert c_2; decide))
    refine j_aload_n X 0 rfl rfl dX7_inArea_17 ?_
    refine j_get X (by decide) (wE_7 _ rfl) rfl awF7 0 (by decide) aw_16 rfl (v := .ref (ad 1)) rfl dX7_inArea_18 ?_
    refine j_getN X (by decide) (wE_6 _ rfl) rfl awF6 2 (by decide) (List.mem_of_getElem? (i := 23) rfl) rfl (v := .ref (ad 12)) rfl dX7_inArea_21 ?_
    refine j_iload_n X 1 rfl rfl dX7_inArea_24 ?_
    refine j_callVNI X (nn := 1) (As := [.int a]) (st := []) (ci := 0) (by decide) (wE_0 _ rfl) rfl aw_152 aw_153 (c_setInArea0_12 l D y ad M hz.1 a) (List.mem_of_getElem? (i := 11) rfl) aw_154 aw_20 (by decide +kernel) ⟨by decide, by decide⟩ rfl (Nat.le_of_ble_eq_true rfl) ⟨by decide, by decide⟩ dX7_inArea_25 ?_
    rintro r_ M1_ ⟨rfl, rfl⟩
    exact j_iret X hr hlocks dX7_inArea_28 ⟨(by unfold sp_inArea; (repeat' split) <;> first | rfl | omega | (exfalso; omega)), sm_rf⟩
  · refine j_if_ne X 17 (by decide) dX7_inArea_7 (fun c_3 => False.elim (by revert c_3; decide)) (fun c_3 => ?_)
    refine j_aload_n X 0 rfl rfl dX7_inArea_10 ?_
    refine j_ldc X (v := (-1000000001)) aw_108 dX7_inArea_11 ?_
    refine j_callVI X (nn := 1) (As := [.int (-1000000001)]) (st := []) (ci := 7) (by decide) (wE_7 _ rfl) rfl aw_117 aw_118 (c_X7_refuse l D y ad M (-1000000001) 1 (by decide) (by decide)) aw_116 aw_119 aw_2 (by decide +kernel) ⟨by decide, by decide⟩ rfl (Nat.le_of_ble_eq_true rfl) ⟨by decide, by decide⟩ dX7_inArea_13 ?_
    rintro r_ M1_ ⟨rfl, rfl⟩
    exact j_iret X hr hlocks dX7_inArea_16 ⟨(by unfold sp_inArea; (repeat' split) <;> first | rfl | omega | (exfalso; omega)), (sm_up sm_rf rfl)⟩
set_option maxRecDepth 100000 in
set_option maxHeartbeats 4000000 in
theorem c0_X7_set (l : Launch) (D : va_G) (y : wY) (ad : Nat → Nat) (M : Mem) (hz : Z0 M) (what v : Int32) : MI l D y ad yX7_set (Cond.code yX7_set cX7_set 3 (some .int)) 6 M [.ref (ad 0), .int what, .int v] (fun r M' => sp_set what v = r ∧ sm (fun b _ => decide (b < 79)) M M') := by
  refine MI_of (by decide) (Nat.le_of_ble_eq_true rfl) ?_
  intro p e s m args below meth c X hr hlocks
  refine j_lv (lv1 := [(0, .ref (ad 0)), (1, .int what), (2, .int v)]) [0, 1, 2] rfl ?_
  refine j_iload_n X 1 rfl rfl dX7_set_0 ?_
  refine j_iconst X (v := 0) (by decide) dX7_set_1 ?_
  refine j_iconst X (v := 3) (by decide) dX7_set_2 ?_
  refine j_callSI X (nn := 3) (As := [.int what, .int 0, .int 3]) (st := []) aw_110 (c_X7_isWithin l D y ad M what 0 3 0 3 (by decide) (by decide)) aw_109 aw_111 aw_2 (by decide +kernel) ⟨by decide, by decide⟩ rfl (Nat.le_of_ble_eq_true rfl) ⟨by decide, by decide⟩ dX7_set_3 ?_
  rintro r_ M1_ (⟨rfl, rfl, h_1⟩ | ⟨rfl, rfl, h_1⟩)
  · refine j_if_eq X 21 (by decide) dX7_set_6 (fun c_2 => False.elim (by revert c_2; decide)) (fun c_2 => ?_)
    refine j_iload_n X 2 rfl rfl dX7_set_9 ?_
    refine j_iconst X (v := 0) (by decide) dX7_set_10 ?_
    refine j_iload_n X 1 rfl rfl dX7_set_11 ?_
    refine j_callSI X (nn := 1) (As := [.int what]) (st := [.int 0, .int v]) aw_113 (c_X7_mostOfGrinder l D y ad M what) aw_112 aw_114 aw_2 (by decide +kernel) ⟨by decide, by decide⟩ rfl (Nat.le_of_ble_eq_true rfl) ⟨by decide, by decide⟩ dX7_set_12 ?_
    rintro r_ M1_ (⟨h_3, rfl, rfl⟩ | ⟨h_3, rfl, rfl⟩ | ⟨h_3, rfl, rfl⟩ | ⟨h_3, rfl, rfl⟩)
    · refine j_callSI X (nn := 3) (As := [.int v, .int 0, .int 9]) (st := []) aw_110 (c_X7_isWithin l D y ad M v 0 9 0 9 (by decide) (by decide)) aw_109 aw_111 aw_2 (by decide +kernel) ⟨by decide, by decide⟩ rfl (Nat.le_of_ble_eq_true rfl) ⟨by decide, by decide⟩ dX7_set_15 ?_
      rintro r_ M1_ (⟨rfl, rfl, h_4⟩ | ⟨rfl, rfl, h_4⟩)
      · refine j_if_ne X 28 (by decide) dX7_set_18 (fun c_5 => ?_) (fun c_5 => False.elim (by revert c_5; decide))
        refine j_aload_n X 0 rfl rfl dX7_set_28 ?_
        refine j_get X (by decide) (wE_7 _ rfl) rfl awF7 0 (by decide) aw_16 rfl (v := .ref (ad 1)) rfl dX7_set_29 ?_
        refine j_getN X (by decide) (wE_6 _ rfl) rfl awF6 2 (by decide) (List.mem_of_getElem? (i := 23) rfl) rfl (v := .ref (ad 12)) rfl dX7_set_32 ?_
        refine j_iload_n X 1 rfl rfl dX7_set_35 ?_
        refine j_iload_n X 2 rfl rfl dX7_set_36 ?_
        refine j_callVNI X (nn := 2) (As := [.int what, .int v]) (st := []) (ci := 0) (by decide) (wE_0 _ rfl) rfl aw_121 aw_122 (c_setGrinder_12 l D y ad M hz what v) (List.mem_of_getElem? (i := 10) rfl) aw_123 aw_20 (by decide +kernel) ⟨by decide, by decide⟩ rfl (Nat.le_of_ble_eq_true rfl) ⟨by decide, by decide⟩ dX7_set_37 ?_
        rintro r_ M_7 (⟨h_6, rfl, h_6_s⟩ | ⟨h_6, rfl, h_6_s⟩ | ⟨h_6, rfl, h_6_s⟩ | ⟨h_6, rfl, h_6_s⟩)
        · exact j_iret X hr hlocks dX7_set_40 ⟨(by unfold sp_set; (repeat' split) <;> first | rfl | omega | (exfalso; omega)), (sm_tr sm_rf (sm_w h_6_s (by intro b k hb; simp only [Bool.or_eq_false_iff, Bool.and_eq_false_iff, beq_eq_false_iff_ne, ne_eq, decide_eq_false_iff_not] at hb ⊢; omega)))⟩
        · exact j_iret X hr hlocks dX7_set_40 ⟨(by unfold sp_set; (repeat' split) <;> first | rfl | omega | (exfalso; omega)), (sm_tr sm_rf (sm_w h_6_s (by intro b k hb; simp only [Bool.or_eq_false_iff, Bool.and_eq_false_iff, beq_eq_false_iff_ne, ne_eq, decide_eq_false_iff_not] at hb ⊢; omega)))⟩
        · exact j_iret X hr hlocks dX7_set_40 ⟨(by unfold sp_set; (repeat' split) <;> first | rfl | omega | (exfalso; omega)), (sm_tr sm_rf (sm_w h_6_s (by intro b k hb; simp only [Bool.or_eq_false_iff, Bool.and_eq_false_iff, beq_eq_false_iff_ne, ne_eq, decide_eq_false_iff_not] at hb ⊢; omega)))⟩
        · exact j_iret X hr hlocks dX7_set_40 ⟨(by unfold sp_set; (repeat' split) <;> first | rfl | omega | (exfalso; omega)), (sm_tr sm_rf (sm_w h_6_s (by intro b k hb; simp only [Bool.or_eq_false_iff, Bool.and_eq_false_iff, beq_eq_false_iff_ne, ne_eq, decide_eq_false_iff_not] at hb ⊢; omega)))⟩
      · refine j_if_ne X 28 (by decide) dX7_set_18 (fun c_8 => False.elim (by revert c_8; decide)) (fun c_8 => ?_)
        refine j_aload_n X 0 rfl rfl dX7_set_21 ?_
        refine j_ldc X (v := (-1000000001)) aw_108 dX7_set_22 ?_
        refine j_callVI X (nn := 1) (As := [.int (-1000000001)]) (st := []) (ci := 7) (by decide) (wE_7 _ rfl) rfl aw_117 aw_118 (c_X7_refuse l D y ad M (-1000000001) 1 (by decide) (by decide)) aw_116 aw_119 aw_2 (by decide +kernel) ⟨by decide, by decide⟩ rfl (Nat.le_of_ble_eq_true rfl) ⟨by decide, by decide⟩ dX7_set_24 ?_
        rintro r_ M1_ ⟨rfl, rfl⟩
        exact j_iret X hr hlocks dX7_set_27 ⟨(by unfold sp_set; (repeat' split) <;> first | rfl | omega | (exfalso; omega)), (sm_up sm_rf rfl)⟩
    · refine j_callSI X (nn := 3) (As := [.int v, .int 0, .int 9]) (st := []) aw_110 (c_X7_isWithin l D y ad M v 0 9 0 9 (by decide) (by decide)) aw_109 aw_111 aw_2 (by decide +kernel) ⟨by decide, by decide⟩ rfl (Nat.le_of_ble_eq_true rfl) ⟨by decide, by decide⟩ dX7_set_15 ?_
      rintro r_ M1_ (⟨rfl, rfl, h_9⟩ | ⟨rfl, rfl, h_9⟩)
      · refine j_if_ne X 28 (by decide) dX7_set_18 (fun c_10 => ?_) (fun c_10 => False.elim (by revert c_10; decide))
        refine j_aload_n X 0 rfl rfl dX7_set_28 ?_
        refine j_get X (by decide) (wE_7 _ rfl) rfl awF7 0 (by decide) aw_16 rfl (v := .ref (ad 1)) rfl dX7_set_29 ?_
        refine j_getN X (by decide) (wE_6 _ rfl) rfl awF6 2 (by decide) (List.mem_of_getElem? (i := 23) rfl) rfl (v := .ref (ad 12)) rfl dX7_set_32 ?_
        refine j_iload_n X 1 rfl rfl dX7_set_35 ?_
        refine j_iload_n X 2 rfl rfl dX7_set_36 ?_
        refine j_callVNI X (nn := 2) (As := [.int what, .int v]) (st := []) (ci := 0) (by decide) (wE_0 _ rfl) rfl aw_121 aw_122 (c_setGrinder_12 l D y ad M hz what v) (List.mem_of_getElem? (i := 10) rfl) aw_123 aw_20 (by decide +kernel) ⟨by decide, by decide⟩ rfl (Nat.le_of_ble_eq_true rfl) ⟨by decide, by decide⟩ dX7_set_37 ?_
        rintro r_ M_12 (⟨h_11, rfl, h_11_s⟩ | ⟨h_11, rfl, h_11_s⟩ | ⟨h_11, rfl, h_11_s⟩ | ⟨h_11, rfl, h_11_s⟩)
        · exact j_iret X hr hlocks dX7_set_40 ⟨(by unfold sp_set; (repeat' split) <;> first | rfl | omega | (exfalso; omega)), (sm_tr sm_rf (sm_w h_11_s (by intro b k hb; simp only [Bool.or_eq_false_iff, Bool.and_eq_false_iff, beq_eq_false_iff_ne, ne_eq, decide_eq_false_iff_not] at hb ⊢; omega)))⟩
        · exact j_iret X hr hlocks dX7_set_40 ⟨(by unfold sp_set; (repeat' split) <;> first | rfl | omega | (exfalso; omega)), (sm_tr sm_rf (sm_w h_11_s (by intro b k hb; simp only [Bool.or_eq_false_iff, Bool.and_eq_false_iff, beq_eq_false_iff_ne, ne_eq, decide_eq_false_iff_not] at hb ⊢; omega)))⟩
        · exact j_iret X hr hlocks dX7_set_40 ⟨(by unfold sp_set; (repeat' split) <;> first | rfl | omega | (exfalso; omega)), (sm_tr sm_rf (sm_w h_11_s (by intro b k hb; simp only [Bool.or_eq_false_iff, Bool.and_eq_false_iff, beq_eq_false_iff_ne, ne_eq, decide_eq_false_iff_not] at hb ⊢; omega)))⟩
        · exact j_iret X hr hlocks dX7_set_40 ⟨(by unfold sp_set; (repeat' split) <;> first | rfl | omega | (exfalso; omega)), (sm_tr sm_rf (sm_w h_11_s (by intro b k hb; simp only [Bool.or_eq_false_iff, Bool.and_eq_false_iff, beq_eq_false_iff_ne, ne_eq, decide_eq_false_iff_not] at hb ⊢; omega)))⟩
      · refine j_if_ne X 28 (by decide) dX7_set_18 (fun c_13 => False.elim (by revert c_13; decide)) (fun c_13 => ?_)
        refine j_aload_n X 0 rfl rfl dX7_set_21 ?_
        refine j_ldc X (v := (-1000000001)) aw_108 dX7_set_22 ?_
        refine j_callVI X (nn := 1) (As := [.int (-1000000001)]) (st := []) (ci := 7) (by decide) (wE_7 _ rfl) rfl aw_117 aw_118 (c_X7_refuse l D y ad M (-1000000001) 1 (by decide) (by decide)) aw_116 aw_119 aw_2 (by decide +kernel) ⟨by decide, by decide⟩ rfl (Nat.le_of_ble_eq_true rfl) ⟨by decide, by decide⟩ dX7_set_24 ?_
        rintro r_ M1_ ⟨rfl, rfl⟩
        exact j_iret X hr hlocks dX7_set_27 ⟨(by unfold sp_set; (repeat' split) <;> first | rfl | omega | (exfalso; omega)), (sm_up sm_rf rfl)⟩
    · refine j_callSI X (nn := 3) (As := [.int v, .int 0, .int 99999]) (st := []) aw_110 (c_X7_isWithin l D y ad M v 0 99999 0 99999 (by decide) (by decide)) aw_109 aw_111 aw_2 (by decide +kernel) ⟨by decide, by decide⟩ rfl (Nat.le_of_ble_eq_true rfl) ⟨by decide, by decide⟩ dX7_set_15 ?_
      rintro r_ M1_ (⟨rfl, rfl, h_14⟩ | ⟨rfl, rfl, h_14⟩)
      · refine j_if_ne X 28 (by decide) dX7_set_18 (fun c_15 => ?_) (fun c_15 => False.elim (by revert c_15; decide))
        refine j_aload_n X 0 rfl rfl dX7_set_28 ?_
        refine j_get X (by decide) (wE_7 _ rfl) rfl awF7 0 (by decide) aw_16 rfl (v := .ref (ad 1)) rfl dX7_set_29 ?_
        refine j_getN X (by decide) (wE_6 _ rfl) rfl awF6 2 (by decide) (List.mem_of_getElem? (i := 23) rfl) rfl (v := .ref (ad 12)) rfl dX7_set_32 ?_
        refine j_iload_n X 1 rfl rfl dX7_set_35 ?_
        refine j_iload_n X 2 rfl rfl dX7_set_36 ?_
        refine j_callVNI X (nn := 2) (As := [.int what, .int v]) (st := []) (ci := 0) (by decide) (wE_0 _ rfl) rfl aw_121 aw_122 (c_setGrinder_12 l D y ad M hz what v) (List.mem_of_getElem? (i := 10) rfl) aw_123 aw_20 (by decide +kernel) ⟨by decide, by decide⟩ rfl (Nat.le_of_ble_eq_true rfl) ⟨by decide, by decide⟩ dX7_set_37 ?_
        rintro r_ M_17 (⟨h_16, rfl, h_16_s⟩ | ⟨h_16, rfl, h_16_s⟩ | ⟨h_16, rfl, h_16_s⟩ | ⟨h_16, rfl, h_16_s⟩)
        · exact j_iret X hr hlocks dX7_set_40 ⟨(by unfold sp_set; (repeat' split) <;> first | rfl | omega | (exfalso; omega)), (sm_tr sm_rf (sm_w h_16_s (by intro b k hb; simp only [Bool.or_eq_false_iff, Bool.and_eq_false_iff, beq_eq_false_iff_ne, ne_eq, decide_eq_false_iff_not] at hb ⊢; omega)))⟩
        · exact j_iret X hr hlocks dX7_set_40 ⟨(by unfold sp_set; (repeat' split) <;> first | rfl | omega | (exfalso; omega)), (sm_tr sm_rf (sm_w h_16_s (by intro b k hb; simp only [Bool.or_eq_false_iff, Bool.and_eq_false_iff, beq_eq_false_iff_ne, ne_eq, decide_eq_false_iff_not] at hb ⊢; omega)))⟩
        · exact j_iret X hr hlocks dX7_set_40 ⟨(by unfold sp_set; (repeat' split) <;> first | rfl | omega | (exfalso; omega)), (sm_tr sm_rf (sm_w h_16_s (by intro b k hb; simp only [Bool.or_eq_false_iff, Bool.and_eq_false_iff, beq_eq_false_iff_ne, ne_eq, decide_eq_false_iff_not] at hb ⊢; omega)))⟩
        · exact j_iret X hr hlocks dX7_set_40 ⟨(by unfold sp_set; (repeat' split) <;> first | rfl | omega | (exfalso; omega)), (sm_tr sm_rf (sm_w h_16_s (by intro b k hb; simp only [Bool.or_eq_false_iff, Bool.and_eq_false_iff, beq_eq_false_iff_ne, ne_eq, decide_eq_false_iff_not] at hb ⊢; omega)))⟩
      · refine j_if_ne X 28 (by decide) dX7_set_18 (fun c_18 => False.elim (by revert c_18; decide)) (fun c_18 => ?_)
        refine j_aload_n X 0 rfl rfl dX7_set_21 ?_
        refine j_ldc X (v := (-1000000001)) aw_108 dX7_set_22 ?_
        refine j_callVI X (nn := 1) (As := [.int (-1000000001)]) (st := []) (ci := 7) (by decide) (wE_7 _ rfl) rfl aw_117 aw_118 (c_X7_refuse l D y ad M (-1000000001) 1 (by decide) (by decide)) aw_116 aw_119 aw_2 (by decide +kernel) ⟨by decide, by decide⟩ rfl (Nat.le_of_ble_eq_true rfl) ⟨by decide, by decide⟩ dX7_set_24 ?_
        rintro r_ M1_ ⟨rfl, rfl⟩
        exact j_iret X hr hlocks dX7_set_27 ⟨(by unfold sp_set; (repeat' split) <;> first | rfl | omega | (exfalso; omega)), (sm_up sm_rf rfl)⟩
    · refine j_callSI X (nn := 3) (As := [.int v, .int 0, .int 99999]) (st := []) aw_110 (c_X7_isWithin l D y ad M v 0 99999 0 99999 (by decide) (by decide)) aw_109 aw_111 aw_2 (by decide +kernel) ⟨by decide, by decide⟩ rfl (Nat.le_of_ble_eq_true rfl) ⟨by decide, by decide⟩ dX7_set_15 ?_
      rintro r_ M1_ (⟨rfl, rfl, h_19⟩ | ⟨rfl, rfl, h_19⟩)
      · refine j_if_ne X 28 (by decide) dX7_set_18 (fun c_20 => ?_) (fun c_20 => False.elim (by revert c_20; decide))
        refine j_aload_n X 0 rfl rfl dX7_set_28 ?_
        refine j_get X (by decide) (wE_7 _ rfl) rfl awF7 0 (by decide) aw_16 rfl (v := .ref (ad 1)) rfl dX7_set_29 ?_
        refine j_getN X (by decide) (wE_6 _ rfl) rfl awF6 2 (by decide) (List.mem_of_getElem? (i := 23) rfl) rfl (v := .ref (ad 12)) rfl dX7_set_32 ?_
        refine j_iload_n X 1 rfl rfl dX7_set_35 ?_
        refine j_iload_n X 2 rfl rfl dX7_set_36 ?_
        refine j_callVNI X (nn := 2) (As := [.int what, .int v]) (st := []) (ci := 0) (by decide) (wE_0 _ rfl) rfl aw_121 aw_122 (c_setGrinder_12 l D y ad M hz what v) (List.mem_of_getElem? (i := 10) rfl) aw_123 aw_20 (by decide +kernel) ⟨by decide, by decide⟩ rfl (Nat.le_of_ble_eq_true rfl) ⟨by decide, by decide⟩ dX7_set_37 ?_
        rintro r_ M_22 (⟨h_21, rfl, h_21_s⟩ | ⟨h_21, rfl, h_21_s⟩ | ⟨h_21, rfl, h_21_s⟩ | ⟨h_21, rfl, h_21_s⟩)
        · exact j_iret X hr hlocks dX7_set_40 ⟨(by unfold sp_set; (repeat' split) <;> first | rfl | omega | (exfalso; omega)), (sm_tr sm_rf (sm_w h_21_s (by intro b k hb; simp only [Bool.or_eq_false_iff, Bool.and_eq_false_iff, beq_eq_false_iff_ne, ne_eq, decide_eq_false_iff_not] at hb ⊢; omega)))⟩
        · exact j_iret X hr hlocks dX7_set_40 ⟨(by unfold sp_set; (repeat' split) <;> first | rfl | omega | (exfalso; omega)), (sm_tr sm_rf (sm_w h_21_s (by intro b k hb; simp only [Bool.or_eq_false_iff, Bool.and_eq_false_iff, beq_eq_false_iff_ne, ne_eq, decide_eq_false_iff_not] at hb ⊢; omega)))⟩
        · exact j_iret X hr hlocks dX7_set_40 ⟨(by unfold sp_set; (repeat' split) <;> first | rfl | omega | (exfalso; omega)), (sm_tr sm_rf (sm_w h_21_s (by intro b k hb; simp only [Bool.or_eq_false_iff, Bool.and_eq_false_iff, beq_eq_false_iff_ne, ne_eq, decide_eq_false_iff_not] at hb ⊢; omega)))⟩
        · exact j_iret X hr hlocks dX7_set_40 ⟨(by unfold sp_set; (repeat' split) <;> first | rfl | omega | (exfalso; omega)), (sm_tr sm_rf (sm_w h_21_s (by intro b k hb; simp only [Bool.or_eq_false_iff, Bool.and_eq_false_iff, beq_eq_false_iff_ne, ne_eq, decide_eq_false_iff_not] at hb ⊢; omega)))⟩
      · refine j_if_ne X 28 (by decide) dX7_set_18 (fun c_23 => False.elim (by revert c_23; decide)) (fun c_23 => ?_)
        refine j_aload_n X 0 rfl rfl dX7_set_21 ?_
        refine j_ldc X (v := (-1000000001)) aw_108 dX7_set_22 ?_
        refine j_callVI X (nn := 1) (As := [.int (-1000000001)]) (st := []) (ci := 7) (by decide) (wE_7 _ rfl) rfl aw_117 aw_118 (c_X7_refuse l D y ad M (-1000000001) 1 (by decide) (by decide)) aw_116 aw_119 aw_2 (by decide +kernel) ⟨by decide, by decide⟩ rfl (Nat.le_of_ble_eq_true rfl) ⟨by decide, by decide⟩ dX7_set_24 ?_
        rintro r_ M1_ ⟨rfl, rfl⟩
        exact j_iret X hr hlocks dX7_set_27 ⟨(by unfold sp_set; (repeat' split) <;> first | rfl | omega | (exfalso; omega)), (sm_up sm_rf rfl)⟩
  · refine j_if_eq X 21 (by decide) dX7_set_6 (fun c_24 => ?_) (fun c_24 => False.elim (by revert c_24; decide))
    refine j_aload_n X 0 rfl rfl dX7_set_21 ?_
    refine j_ldc X (v := (-1000000001)) aw_108 dX7_set_22 ?_
    refine j_callVI X (nn := 1) (As := [.int (-1000000001)]) (st := []) (ci := 7) (by decide) (wE_7 _ rfl) rfl aw_117 aw_118 (c_X7_refuse l D y ad M (-1000000001) 1 (by decide) (by decide)) aw_116 aw_119 aw_2 (by decide +kernel) ⟨by decide, by decide⟩ rfl (Nat.le_of_ble_eq_true rfl) ⟨by decide, by decide⟩ dX7_set_24 ?_
    rintro r_ M1_ ⟨rfl, rfl⟩
    exact j_iret X hr hlocks dX7_set_27 ⟨(by unfold sp_set; (repeat' split) <;> first | rfl | omega | (exfalso; omega)), (sm_up sm_rf rfl)⟩
