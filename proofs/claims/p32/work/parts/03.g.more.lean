theorem dJ6_bitCount_0f7a4_0 : decode cJ6_bitCount_0f7a4 0 = .ok (.iload_n 0, 1) := by decide +kernel
theorem dJ6_bitCount_0f7a4_1 : decode cJ6_bitCount_0f7a4 1 = .ok (.iload_n 0, 1) := by decide +kernel
theorem dJ6_bitCount_0f7a4_2 : decode cJ6_bitCount_0f7a4 2 = .ok (.iconst 1, 1) := by decide +kernel
theorem dJ6_bitCount_0f7a4_3 : decode cJ6_bitCount_0f7a4 3 = .ok (.iushr, 1) := by decide +kernel
theorem dJ6_bitCount_0f7a4_4 : decode cJ6_bitCount_0f7a4 4 = .ok (.ldc_w 265, 3) := by decide +kernel
theorem dJ6_bitCount_0f7a4_7 : decode cJ6_bitCount_0f7a4 7 = .ok (.iand, 1) := by decide +kernel
theorem dJ6_bitCount_0f7a4_8 : decode cJ6_bitCount_0f7a4 8 = .ok (.isub, 1) := by decide +kernel
theorem dJ6_bitCount_0f7a4_9 : decode cJ6_bitCount_0f7a4 9 = .ok (.istore_n 0, 1) := by decide +kernel
theorem dJ6_bitCount_0f7a4_10 : decode cJ6_bitCount_0f7a4 10 = .ok (.iload_n 0, 1) := by decide +kernel
theorem dJ6_bitCount_0f7a4_11 : decode cJ6_bitCount_0f7a4 11 = .ok (.ldc_w 266, 3) := by decide +kernel
theorem dJ6_bitCount_0f7a4_14 : decode cJ6_bitCount_0f7a4 14 = .ok (.iand, 1) := by decide +kernel
theorem dJ6_bitCount_0f7a4_15 : decode cJ6_bitCount_0f7a4 15 = .ok (.iload_n 0, 1) := by decide +kernel
theorem dJ6_bitCount_0f7a4_16 : decode cJ6_bitCount_0f7a4 16 = .ok (.iconst 2, 1) := by decide +kernel
theorem dJ6_bitCount_0f7a4_17 : decode cJ6_bitCount_0f7a4 17 = .ok (.iushr, 1) := by decide +kernel
theorem dJ6_bitCount_0f7a4_18 : decode cJ6_bitCount_0f7a4 18 = .ok (.ldc_w 266, 3) := by decide +kernel
theorem dJ6_bitCount_0f7a4_21 : decode cJ6_bitCount_0f7a4 21 = .ok (.iand, 1) := by decide +kernel
theorem dJ6_bitCount_0f7a4_22 : decode cJ6_bitCount_0f7a4 22 = .ok (.iadd, 1) := by decide +kernel
theorem dJ6_bitCount_0f7a4_23 : decode cJ6_bitCount_0f7a4 23 = .ok (.istore_n 0, 1) := by decide +kernel
theorem dJ6_bitCount_0f7a4_24 : decode cJ6_bitCount_0f7a4 24 = .ok (.iload_n 0, 1) := by decide +kernel
theorem dJ6_bitCount_0f7a4_25 : decode cJ6_bitCount_0f7a4 25 = .ok (.iload_n 0, 1) := by decide +kernel
theorem dJ6_bitCount_0f7a4_26 : decode cJ6_bitCount_0f7a4 26 = .ok (.iconst 4, 1) := by decide +kernel
theorem dJ6_bitCount_0f7a4_27 : decode cJ6_bitCount_0f7a4 27 = .ok (.iushr, 1) := by decide +kernel
theorem dJ6_bitCount_0f7a4_28 : decode cJ6_bitCount_0f7a4 28 = .ok (.iadd, 1) := by decide +kernel
theorem dJ6_bitCount_0f7a4_29 : decode cJ6_bitCount_0f7a4 29 = .ok (.ldc_w 267, 3) := by decide +kernel
theorem dJ6_bitCount_0f7a4_32 : decode cJ6_bitCount_0f7a4 32 = .ok (.iand, 1) := by decide +kernel
theorem dJ6_bitCount_0f7a4_33 : decode cJ6_bitCount_0f7a4 33 = .ok (.istore_n 0, 1) := by decide +kernel
theorem dJ6_bitCount_0f7a4_34 : decode cJ6_bitCount_0f7a4 34 = .ok (.iload_n 0, 1) := by decide +kernel
theorem dJ6_bitCount_0f7a4_35 : decode cJ6_bitCount_0f7a4 35 = .ok (.iload_n 0, 1) := by decide +kernel
theorem dJ6_bitCount_0f7a4_36 : decode cJ6_bitCount_0f7a4 36 = .ok (.bipush 8, 2) := by decide +kernel
theorem dJ6_bitCount_0f7a4_38 : decode cJ6_bitCount_0f7a4 38 = .ok (.iushr, 1) := by decide +kernel
theorem dJ6_bitCount_0f7a4_39 : decode cJ6_bitCount_0f7a4 39 = .ok (.iadd, 1) := by decide +kernel
theorem dJ6_bitCount_0f7a4_40 : decode cJ6_bitCount_0f7a4 40 = .ok (.istore_n 0, 1) := by decide +kernel
theorem dJ6_bitCount_0f7a4_41 : decode cJ6_bitCount_0f7a4 41 = .ok (.iload_n 0, 1) := by decide +kernel
theorem dJ6_bitCount_0f7a4_42 : decode cJ6_bitCount_0f7a4 42 = .ok (.iload_n 0, 1) := by decide +kernel
theorem dJ6_bitCount_0f7a4_43 : decode cJ6_bitCount_0f7a4 43 = .ok (.bipush 16, 2) := by decide +kernel
theorem dJ6_bitCount_0f7a4_45 : decode cJ6_bitCount_0f7a4 45 = .ok (.iushr, 1) := by decide +kernel
theorem dJ6_bitCount_0f7a4_46 : decode cJ6_bitCount_0f7a4 46 = .ok (.iadd, 1) := by decide +kernel
theorem dJ6_bitCount_0f7a4_47 : decode cJ6_bitCount_0f7a4 47 = .ok (.istore_n 0, 1) := by decide +kernel
theorem dJ6_bitCount_0f7a4_48 : decode cJ6_bitCount_0f7a4 48 = .ok (.iload_n 0, 1) := by decide +kernel
theorem dJ6_bitCount_0f7a4_49 : decode cJ6_bitCount_0f7a4 49 = .ok (.bipush 63, 2) := by decide +kernel
theorem dJ6_bitCount_0f7a4_51 : decode cJ6_bitCount_0f7a4 51 = .ok (.iand, 1) := by decide +kernel
theorem dJ6_bitCount_0f7a4_52 : decode cJ6_bitCount_0f7a4 52 = .ok (.ireturn, 1) := by decide +kernel
theorem dX0_endedMany_0 : decode cX0_endedMany 0 = .ok (.aload_n 0, 1) := by decide +kernel
theorem dX0_endedMany_1 : decode cX0_endedMany 1 = .ok (.invokevirtual 122, 3) := by decide +kernel
theorem dX0_endedMany_4 : decode cX0_endedMany 4 = .ok (.invokestatic 125, 3) := by decide +kernel
theorem dX0_endedMany_7 : decode cX0_endedMany 7 = .ok (.ireturn, 1) := by decide +kernel
theorem dX0_edgesTogether_0 : decode cX0_edgesTogether 0 = .ok (.iconst 0, 1) := by decide +kernel
theorem dX0_edgesTogether_1 : decode cX0_edgesTogether 1 = .ok (.istore_n 1, 1) := by decide +kernel
theorem dX0_edgesTogether_2 : decode cX0_edgesTogether 2 = .ok (.iconst 0, 1) := by decide +kernel
theorem dX0_edgesTogether_3 : decode cX0_edgesTogether 3 = .ok (.istore_n 2, 1) := by decide +kernel
theorem dX0_edgesTogether_4 : decode cX0_edgesTogether 4 = .ok (.iload_n 2, 1) := by decide +kernel
theorem dX0_edgesTogether_5 : decode cX0_edgesTogether 5 = .ok (.aload_n 0, 1) := by decide +kernel
theorem dX0_edgesTogether_6 : decode cX0_edgesTogether 6 = .ok (.getfield 29, 3) := by decide +kernel
theorem dX0_edgesTogether_9 : decode cX0_edgesTogether 9 = .ok (.if_icmp .ge 21, 3) := by decide +kernel
theorem dX0_edgesTogether_30 : decode cX0_edgesTogether 30 = .ok (.iload_n 1, 1) := by decide +kernel
theorem dX0_edgesTogether_31 : decode cX0_edgesTogether 31 = .ok (.ireturn, 1) := by decide +kernel
theorem dX0_edgesTogether_12 : decode cX0_edgesTogether 12 = .ok (.iload_n 1, 1) := by decide +kernel
theorem dX0_edgesTogether_13 : decode cX0_edgesTogether 13 = .ok (.aload_n 0, 1) := by decide +kernel
theorem dX0_edgesTogether_14 : decode cX0_edgesTogether 14 = .ok (.getfield 11, 3) := by decide +kernel
theorem dX0_edgesTogether_17 : decode cX0_edgesTogether 17 = .ok (.iload_n 2, 1) := by decide +kernel
theorem dX0_edgesTogether_18 : decode cX0_edgesTogether 18 = .ok (.aaload, 1) := by decide +kernel
theorem dX0_edgesTogether_19 : decode cX0_edgesTogether 19 = .ok (.getfield 65, 3) := by decide +kernel
theorem dX0_edgesTogether_22 : decode cX0_edgesTogether 22 = .ok (.iadd, 1) := by decide +kernel
theorem dX0_edgesTogether_23 : decode cX0_edgesTogether 23 = .ok (.istore_n 1, 1) := by decide +kernel
theorem dX0_edgesTogether_24 : decode cX0_edgesTogether 24 = .ok (.iinc 2 1, 3) := by decide +kernel
theorem dX0_edgesTogether_27 : decode cX0_edgesTogether 27 = .ok (.goto (-23), 3) := by decide +kernel
theorem dX0_setFree_0 : decode cX0_setFree 0 = .ok (.iconst 0, 1) := by decide +kernel
theorem dX0_setFree_1 : decode cX0_setFree 1 = .ok (.istore_n 1, 1) := by decide +kernel
theorem dX0_setFree_2 : decode cX0_setFree 2 = .ok (.iconst 0, 1) := by decide +kernel
theorem dX0_setFree_3 : decode cX0_setFree 3 = .ok (.istore_n 2, 1) := by decide +kernel
theorem dX0_setFree_4 : decode cX0_setFree 4 = .ok (.iload_n 2, 1) := by decide +kernel
theorem dX0_setFree_5 : decode cX0_setFree 5 = .ok (.aload_n 0, 1) := by decide +kernel
theorem dX0_setFree_6 : decode cX0_setFree 6 = .ok (.getfield 29, 3) := by decide +kernel
theorem dX0_setFree_9 : decode cX0_setFree 9 = .ok (.if_icmp .ge 44, 3) := by decide +kernel
theorem dX0_setFree_53 : decode cX0_setFree 53 = .ok (.iload_n 1, 1) := by decide +kernel
theorem dX0_setFree_54 : decode cX0_setFree 54 = .ok (.ireturn, 1) := by decide +kernel
theorem dX0_setFree_12 : decode cX0_setFree 12 = .ok (.iload_n 1, 1) := by decide +kernel
theorem dX0_setFree_13 : decode cX0_setFree 13 = .ok (.aload_n 0, 1) := by decide +kernel
theorem dX0_setFree_14 : decode cX0_setFree 14 = .ok (.getfield 11, 3) := by decide +kernel
theorem dX0_setFree_17 : decode cX0_setFree 17 = .ok (.iload_n 2, 1) := by decide +kernel
theorem dX0_setFree_18 : decode cX0_setFree 18 = .ok (.aaload, 1) := by decide +kernel
theorem dX0_setFree_19 : decode cX0_setFree 19 = .ok (.getfield 61, 3) := by decide +kernel
theorem dX0_setFree_22 : decode cX0_setFree 22 = .ok (.ifCond .ne 22, 3) := by decide +kernel
theorem dX0_setFree_44 : decode cX0_setFree 44 = .ok (.iconst 0, 1) := by decide +kernel
theorem dX0_setFree_45 : decode cX0_setFree 45 = .ok (.ior, 1) := by decide +kernel
theorem dX0_setFree_46 : decode cX0_setFree 46 = .ok (.istore_n 1, 1) := by decide +kernel
theorem dX0_setFree_47 : decode cX0_setFree 47 = .ok (.iinc 2 1, 3) := by decide +kernel
theorem dX0_setFree_50 : decode cX0_setFree 50 = .ok (.goto (-46), 3) := by decide +kernel
theorem dX0_setFree_25 : decode cX0_setFree 25 = .ok (.aload_n 0, 1) := by decide +kernel
theorem dX0_setFree_26 : decode cX0_setFree 26 = .ok (.aload_n 0, 1) := by decide +kernel
theorem dX0_setFree_27 : decode cX0_setFree 27 = .ok (.getfield 11, 3) := by decide +kernel
theorem dX0_setFree_30 : decode cX0_setFree 30 = .ok (.iload_n 2, 1) := by decide +kernel
theorem dX0_setFree_31 : decode cX0_setFree 31 = .ok (.aaload, 1) := by decide +kernel
theorem dX0_setFree_32 : decode cX0_setFree 32 = .ok (.invokevirtual 83, 3) := by decide +kernel
theorem dX0_setFree_35 : decode cX0_setFree 35 = .ok (.ifCond .eq 9, 3) := by decide +kernel
theorem dX0_setFree_38 : decode cX0_setFree 38 = .ok (.iconst 1, 1) := by decide +kernel
theorem dX0_setFree_39 : decode cX0_setFree 39 = .ok (.iload_n 2, 1) := by decide +kernel
theorem dX0_setFree_40 : decode cX0_setFree 40 = .ok (.ishl, 1) := by decide +kernel
theorem dX0_setFree_41 : decode cX0_setFree 41 = .ok (.goto 4, 3) := by decide +kernel
theorem dX0_sharpen_0 : decode cX0_sharpen 0 = .ok (.iconst 0, 1) := by decide +kernel
theorem dX0_sharpen_1 : decode cX0_sharpen 1 = .ok (.istore_n 2, 1) := by decide +kernel
theorem dX0_sharpen_2 : decode cX0_sharpen 2 = .ok (.iload_n 2, 1) := by decide +kernel
theorem dX0_sharpen_3 : decode cX0_sharpen 3 = .ok (.aload_n 0, 1) := by decide +kernel
theorem dX0_sharpen_4 : decode cX0_sharpen 4 = .ok (.getfield 29, 3) := by decide +kernel
theorem dX0_sharpen_7 : decode cX0_sharpen 7 = .ok (.if_icmp .ge 28, 3) := by decide +kernel
theorem dX0_sharpen_35 : decode cX0_sharpen 35 = .ok (.return_, 1) := by decide +kernel
theorem dX0_sharpen_10 : decode cX0_sharpen 10 = .ok (.iload_n 1, 1) := by decide +kernel
theorem dX0_sharpen_11 : decode cX0_sharpen 11 = .ok (.iload_n 2, 1) := by decide +kernel
theorem dX0_sharpen_12 : decode cX0_sharpen 12 = .ok (.ishr, 1) := by decide +kernel
theorem dX0_sharpen_13 : decode cX0_sharpen 13 = .ok (.iconst 1, 1) := by decide +kernel
theorem dX0_sharpen_14 : decode cX0_sharpen 14 = .ok (.iand, 1) := by decide +kernel
theorem dX0_sharpen_15 : decode cX0_sharpen 15 = .ok (.ifCond .eq 14, 3) := by decide +kernel
theorem dX0_sharpen_29 : decode cX0_sharpen 29 = .ok (.iinc 2 1, 3) := by decide +kernel
theorem dX0_sharpen_32 : decode cX0_sharpen 32 = .ok (.goto (-30), 3) := by decide +kernel
theorem dX0_sharpen_18 : decode cX0_sharpen 18 = .ok (.aload_n 0, 1) := by decide +kernel
theorem dX0_sharpen_19 : decode cX0_sharpen 19 = .ok (.getfield 11, 3) := by decide +kernel
theorem dX0_sharpen_22 : decode cX0_sharpen 22 = .ok (.iload_n 2, 1) := by decide +kernel
theorem dX0_sharpen_23 : decode cX0_sharpen 23 = .ok (.aaload, 1) := by decide +kernel
theorem dX0_sharpen_24 : decode cX0_sharpen 24 = .ok (.bipush 99, 2) := by decide +kernel
theorem dX0_sharpen_26 : decode cX0_sharpen 26 = .ok (.putfield 65, 3) := by decide +kernel
theorem dX7_refuse_0 : decode cX7_refuse 0 = .ok (.aload_n 0, 1) := by decide +kernel
theorem dX7_refuse_1 : decode cX7_refuse 1 = .ok (.getfield 55, 3) := by decide +kernel
theorem dX7_refuse_4 : decode cX7_refuse 4 = .ok (.ldc_w 313, 3) := by decide +kernel
theorem dX7_refuse_7 : decode cX7_refuse 7 = .ok (.iload_n 1, 1) := by decide +kernel
theorem dX7_refuse_8 : decode cX7_refuse 8 = .ok (.isub, 1) := by decide +kernel
theorem dX7_refuse_9 : decode cX7_refuse 9 = .ok (.dup2, 1) := by decide +kernel
theorem dX7_refuse_10 : decode cX7_refuse 10 = .ok (.iaload, 1) := by decide +kernel
theorem dX7_refuse_11 : decode cX7_refuse 11 = .ok (.iconst 1, 1) := by decide +kernel
theorem dX7_refuse_12 : decode cX7_refuse 12 = .ok (.iadd, 1) := by decide +kernel
theorem dX7_refuse_13 : decode cX7_refuse 13 = .ok (.iastore, 1) := by decide +kernel
theorem dX7_refuse_14 : decode cX7_refuse 14 = .ok (.iload_n 1, 1) := by decide +kernel
theorem dX7_refuse_15 : decode cX7_refuse 15 = .ok (.ireturn, 1) := by decide +kernel
theorem dX7_isQuarrel_0 : decode cX7_isQuarrel 0 = .ok (.iload_n 1, 1) := by decide +kernel
theorem dX7_isQuarrel_1 : decode cX7_isQuarrel 1 = .ok (.iconst 0, 1) := by decide +kernel
theorem dX7_isQuarrel_2 : decode cX7_isQuarrel 2 = .ok (.aload_n 0, 1) := by decide +kernel
theorem dX7_isQuarrel_3 : decode cX7_isQuarrel 3 = .ok (.getfield 12, 3) := by decide +kernel
theorem dX7_isQuarrel_6 : decode cX7_isQuarrel 6 = .ok (.getfield 72, 3) := by decide +kernel
theorem dX7_isQuarrel_9 : decode cX7_isQuarrel 9 = .ok (.getfield 86, 3) := by decide +kernel
theorem dX7_isQuarrel_12 : decode cX7_isQuarrel 12 = .ok (.iconst 1, 1) := by decide +kernel
theorem dX7_isQuarrel_13 : decode cX7_isQuarrel 13 = .ok (.isub, 1) := by decide +kernel
theorem dX7_isQuarrel_14 : decode cX7_isQuarrel 14 = .ok (.invokestatic 60, 3) := by decide +kernel
theorem dX7_isQuarrel_17 : decode cX7_isQuarrel 17 = .ok (.ireturn, 1) := by decide +kernel
theorem dX7_greatestOf_0 : decode cX7_greatestOf 0 = .ok (.iconst (-1), 1) := by decide +kernel
theorem dX7_greatestOf_1 : decode cX7_greatestOf 1 = .ok (.istore_n 1, 1) := by decide +kernel
theorem dX7_greatestOf_2 : decode cX7_greatestOf 2 = .ok (.iconst 0, 1) := by decide +kernel
theorem dX7_greatestOf_3 : decode cX7_greatestOf 3 = .ok (.istore_n 2, 1) := by decide +kernel
theorem dX7_greatestOf_4 : decode cX7_greatestOf 4 = .ok (.iload_n 2, 1) := by decide +kernel
theorem dX7_greatestOf_5 : decode cX7_greatestOf 5 = .ok (.bipush 9, 2) := by decide +kernel
theorem dX7_greatestOf_7 : decode cX7_greatestOf 7 = .ok (.if_icmp .ge 19, 3) := by decide +kernel
theorem dX7_greatestOf_26 : decode cX7_greatestOf 26 = .ok (.iload_n 1, 1) := by decide +kernel
theorem dX7_greatestOf_27 : decode cX7_greatestOf 27 = .ok (.ireturn, 1) := by decide +kernel
theorem dX7_greatestOf_10 : decode cX7_greatestOf 10 = .ok (.iload_n 0, 1) := by decide +kernel
theorem dX7_greatestOf_11 : decode cX7_greatestOf 11 = .ok (.iload_n 2, 1) := by decide +kernel
theorem dX7_greatestOf_12 : decode cX7_greatestOf 12 = .ok (.ishr, 1) := by decide +kernel
theorem dX7_greatestOf_13 : decode cX7_greatestOf 13 = .ok (.iconst 1, 1) := by decide +kernel
theorem dX7_greatestOf_14 : decode cX7_greatestOf 14 = .ok (.iand, 1) := by decide +kernel
theorem dX7_greatestOf_15 : decode cX7_greatestOf 15 = .ok (.ifCond .eq 5, 3) := by decide +kernel
theorem dX7_greatestOf_20 : decode cX7_greatestOf 20 = .ok (.iinc 2 1, 3) := by decide +kernel
theorem dX7_greatestOf_23 : decode cX7_greatestOf 23 = .ok (.goto (-19), 3) := by decide +kernel
theorem dX7_greatestOf_18 : decode cX7_greatestOf 18 = .ok (.iload_n 2, 1) := by decide +kernel
theorem dX7_greatestOf_19 : decode cX7_greatestOf 19 = .ok (.istore_n 1, 1) := by decide +kernel
theorem dX7_endsInThought_0 : decode cX7_endsInThought 0 = .ok (.aload_n 0, 1) := by decide +kernel
theorem dX7_endsInThought_1 : decode cX7_endsInThought 1 = .ok (.getfield 31, 3) := by decide +kernel
theorem dX7_endsInThought_4 : decode cX7_endsInThought 4 = .ok (.getfield 91, 3) := by decide +kernel
theorem dX7_endsInThought_7 : decode cX7_endsInThought 7 = .ok (.iload_n 1, 1) := by decide +kernel
theorem dX7_endsInThought_8 : decode cX7_endsInThought 8 = .ok (.aaload, 1) := by decide +kernel
theorem dX7_endsInThought_9 : decode cX7_endsInThought 9 = .ok (.astore_n 3, 1) := by decide +kernel
theorem dX7_endsInThought_10 : decode cX7_endsInThought 10 = .ok (.iconst 0, 1) := by decide +kernel
theorem dX7_endsInThought_11 : decode cX7_endsInThought 11 = .ok (.istore 4, 2) := by decide +kernel
theorem dX7_endsInThought_13 : decode cX7_endsInThought 13 = .ok (.iload 4, 2) := by decide +kernel
theorem dX7_endsInThought_15 : decode cX7_endsInThought 15 = .ok (.iload_n 2, 1) := by decide +kernel
theorem dX7_endsInThought_16 : decode cX7_endsInThought 16 = .ok (.if_icmp .ge 24, 3) := by decide +kernel
theorem dX7_endsInThought_40 : decode cX7_endsInThought 40 = .ok (.aload_n 3, 1) := by decide +kernel
theorem dX7_endsInThought_41 : decode cX7_endsInThought 41 = .ok (.getfield 110, 3) := by decide +kernel
theorem dX7_endsInThought_44 : decode cX7_endsInThought 44 = .ok (.ireturn, 1) := by decide +kernel
theorem dX7_endsInThought_19 : decode cX7_endsInThought 19 = .ok (.aload_n 3, 1) := by decide +kernel
theorem dX7_endsInThought_20 : decode cX7_endsInThought 20 = .ok (.getfield 110, 3) := by decide +kernel
theorem dX7_endsInThought_23 : decode cX7_endsInThought 23 = .ok (.ifCond .ne 17, 3) := by decide +kernel
theorem dX7_endsInThought_26 : decode cX7_endsInThought 26 = .ok (.aload_n 0, 1) := by decide +kernel
theorem dX7_endsInThought_27 : decode cX7_endsInThought 27 = .ok (.getfield 31, 3) := by decide +kernel
theorem dX7_endsInThought_30 : decode cX7_endsInThought 30 = .ok (.iconst 0, 1) := by decide +kernel
theorem dX7_endsInThought_31 : decode cX7_endsInThought 31 = .ok (.invokevirtual 178, 3) := by decide +kernel
theorem dX7_endsInThought_34 : decode cX7_endsInThought 34 = .ok (.iinc 4 1, 3) := by decide +kernel
theorem dX7_endsInThought_37 : decode cX7_endsInThought 37 = .ok (.goto (-24), 3) := by decide +kernel
set_option maxRecDepth 100000 in
set_option maxHeartbeats 4000000 in
theorem g_bitCount (l : Launch) (D : va_G) (y : wY) (ad : Nat → Nat) (M : Mem) (v : Int32) : MI l D y ad yJ6_bitCount_0f7a4 (Cond.code yJ6_bitCount_0f7a4 cJ6_bitCount_0f7a4 1 (some .int)) 0 M [.int v] (fun _ M' => M = M') := by
  refine MI_of (by decide) (Nat.le_of_ble_eq_true rfl) ?_
  intro p e s m args below meth c X hr hlocks
  refine j_lv (lv1 := [(0, .int v)]) [0] rfl ?_
  refine j_iload_n X 0 rfl rfl dJ6_bitCount_0f7a4_0 ?_
  refine j_iload_n X 0 rfl rfl dJ6_bitCount_0f7a4_1 ?_
  refine j_iconst X (v := 1) (by decide) dJ6_bitCount_0f7a4_2 ?_
  refine j_iushr X dJ6_bitCount_0f7a4_3 ?_
  refine j_ldcw X (v := 1431655765) aw_473 dJ6_bitCount_0f7a4_4 ?_
  refine j_iand X dJ6_bitCount_0f7a4_7 ?_
  refine j_isub X dJ6_bitCount_0f7a4_8 ?_
  refine j_topi (fun g_1 _ => ?_)
  refine j_istore_n X [(0, .int g_1)] rfl (by decide) rfl dJ6_bitCount_0f7a4_9 ?_
  refine j_iload_n X 0 rfl rfl dJ6_bitCount_0f7a4_10 ?_
  refine j_ldcw X (v := 858993459) aw_474 dJ6_bitCount_0f7a4_11 ?_
  refine j_iand X dJ6_bitCount_0f7a4_14 ?_
  refine j_iload_n X 0 rfl rfl dJ6_bitCount_0f7a4_15 ?_
  refine j_iconst X (v := 2) (by decide) dJ6_bitCount_0f7a4_16 ?_
  refine j_iushr X dJ6_bitCount_0f7a4_17 ?_
  refine j_ldcw X (v := 858993459) aw_474 dJ6_bitCount_0f7a4_18 ?_
  refine j_iand X dJ6_bitCount_0f7a4_21 ?_
  refine j_iadd X dJ6_bitCount_0f7a4_22 ?_
  refine j_topi (fun g_2 _ => ?_)
  refine j_istore_n X [(0, .int g_2)] rfl (by decide) rfl dJ6_bitCount_0f7a4_23 ?_
  refine j_iload_n X 0 rfl rfl dJ6_bitCount_0f7a4_24 ?_
  refine j_iload_n X 0 rfl rfl dJ6_bitCount_0f7a4_25 ?_
  refine j_iconst X (v := 4) (by decide) dJ6_bitCount_0f7a4_26 ?_
  refine j_iushr X dJ6_bitCount_0f7a4_27 ?_
  refine j_iadd X dJ6_bitCount_0f7a4_28 ?_
  refine j_ldcw X (v := 252645135) aw_475 dJ6_bitCount_0f7a4_29 ?_
  refine j_iand X dJ6_bitCount_0f7a4_32 ?_
  refine j_topi (fun g_3 _ => ?_)
  refine j_istore_n X [(0, .int g_3)] rfl (by decide) rfl dJ6_bitCount_0f7a4_33 ?_
  refine j_iload_n X 0 rfl rfl dJ6_bitCount_0f7a4_34 ?_
  refine j_iload_n X 0 rfl rfl dJ6_bitCount_0f7a4_35 ?_
  refine j_bipush X (v := 8) (by decide) dJ6_bitCount_0f7a4_36 ?_
  refine j_iushr X dJ6_bitCount_0f7a4_38 ?_
  refine j_iadd X dJ6_bitCount_0f7a4_39 ?_
  refine j_topi (fun g_4 _ => ?_)
  refine j_istore_n X [(0, .int g_4)] rfl (by decide) rfl dJ6_bitCount_0f7a4_40 ?_
  refine j_iload_n X 0 rfl rfl dJ6_bitCount_0f7a4_41 ?_
  refine j_iload_n X 0 rfl rfl dJ6_bitCount_0f7a4_42 ?_
  refine j_bipush X (v := 16) (by decide) dJ6_bitCount_0f7a4_43 ?_
  refine j_iushr X dJ6_bitCount_0f7a4_45 ?_
  refine j_iadd X dJ6_bitCount_0f7a4_46 ?_
  refine j_topi (fun g_5 _ => ?_)
  refine j_istore_n X [(0, .int g_5)] rfl (by decide) rfl dJ6_bitCount_0f7a4_47 ?_
  refine j_iload_n X 0 rfl rfl dJ6_bitCount_0f7a4_48 ?_
  refine j_bipush X (v := 63) (by decide) dJ6_bitCount_0f7a4_49 ?_
  refine j_iand X dJ6_bitCount_0f7a4_51 ?_
  exact j_iret X hr hlocks dJ6_bitCount_0f7a4_52 rfl
set_option maxRecDepth 100000 in
set_option maxHeartbeats 4000000 in
theorem g_endedMany_12 (l : Launch) (D : va_G) (y : wY) (ad : Nat → Nat) (M : Mem) (n : Nat) (hn : n ≤ 9) (hm : M 12 3 = nI n) : MI l D y ad yX0_endedMany (Cond.code yX0_endedMany cX0_endedMany 1 (some .int)) 1 M [.ref (ad 12)] (fun _ M' => M = M') := by
  refine MI_of (by decide) (Nat.le_of_ble_eq_true rfl) ?_
  intro p e s m args below meth c X hr hlocks
  refine j_lv (lv1 := [(0, .ref (ad 12))]) [0] rfl ?_
  refine j_aload_n X 0 rfl rfl dX0_endedMany_0 ?_
  refine j_callVI X (nn := 0) (As := []) (st := []) (ci := 0) (by decide) (wE_0 _ rfl) rfl aw_466 aw_467 (g_setEnded_12 l D y ad M n (by omega) hm) aw_465 aw_468 aw_20 (by decide +kernel) ⟨by decide, by decide⟩ rfl (Nat.le_of_ble_eq_true rfl) ⟨by decide, by decide⟩ dX0_endedMany_1 ?_
  rintro r_ M1_ ⟨rfl, rfl⟩
  refine j_callSI X (nn := 1) (As := [.int (setB (fun i => !decide (M (14 + i) 6 = 0)) n)]) (st := []) aw_470 (g_bitCount l D y ad M (setB (fun i => !decide (M (14 + i) 6 = 0)) n)) aw_469 aw_472 aw_471 (by decide +kernel) ⟨by decide, by decide⟩ rfl (Nat.le_of_ble_eq_true rfl) ⟨by decide, by decide⟩ dX0_endedMany_4 ?_
  rintro r_1 M1_ rfl
  exact j_iret X hr hlocks dX0_endedMany_7 rfl
set_option maxRecDepth 100000 in
set_option maxHeartbeats 4000000 in
theorem g_endedMany_49 (l : Launch) (D : va_G) (y : wY) (ad : Nat → Nat) (M : Mem) (n : Nat) (hn : n ≤ 9) (hm : M 49 3 = nI n) : MI l D y ad yX0_endedMany (Cond.code yX0_endedMany cX0_endedMany 1 (some .int)) 1 M [.ref (ad 49)] (fun _ M' => M = M') := by
  refine MI_of (by decide) (Nat.le_of_ble_eq_true rfl) ?_
  intro p e s m args below meth c X hr hlocks
  refine j_lv (lv1 := [(0, .ref (ad 49))]) [0] rfl ?_
  refine j_aload_n X 0 rfl rfl dX0_endedMany_0 ?_
  refine j_callVI X (nn := 0) (As := []) (st := []) (ci := 0) (by decide) (wE_0 _ rfl) rfl aw_466 aw_467 (g_setEnded_49 l D y ad M n (by omega) hm) aw_465 aw_468 aw_20 (by decide +kernel) ⟨by decide, by decide⟩ rfl (Nat.le_of_ble_eq_true rfl) ⟨by decide, by decide⟩ dX0_endedMany_1 ?_
  rintro r_ M1_ ⟨rfl, rfl⟩
  refine j_callSI X (nn := 1) (As := [.int (setB (fun i => !decide (M (51 + i) 6 = 0)) n)]) (st := []) aw_470 (g_bitCount l D y ad M (setB (fun i => !decide (M (51 + i) 6 = 0)) n)) aw_469 aw_472 aw_471 (by decide +kernel) ⟨by decide, by decide⟩ rfl (Nat.le_of_ble_eq_true rfl) ⟨by decide, by decide⟩ dX0_endedMany_4 ?_
  rintro r_1 M1_ rfl
  exact j_iret X hr hlocks dX0_endedMany_7 rfl
set_option maxRecDepth 100000 in
set_option maxHeartbeats 4000000 in
theorem g_edgesTogether_12 (l : Launch) (D : va_G) (y : wY) (ad : Nat → Nat) (M : Mem) (n : Nat) (hn : n ≤ 9) (hm : M 12 3 = nI n) : MI l D y ad yX0_edgesTogether (Cond.code yX0_edgesTogether cX0_edgesTogether 3 (some .int)) 0 M [.ref (ad 12)] (fun _ M' => M = M') := by
  refine MI_of (by decide) (Nat.le_of_ble_eq_true rfl) ?_
  intro p e s m args below meth c X hr hlocks
  refine j_lv (lv1 := [(0, .ref (ad 12))]) [0] rfl ?_
  refine j_iconst X (v := 0) (by decide) dX0_edgesTogether_0 ?_
  refine j_istore_n X [(1, .int 0), (0, .ref (ad 12))] rfl (by decide) rfl dX0_edgesTogether_1 ?_
  refine j_iconst X (v := 0) (by decide) dX0_edgesTogether_2 ?_
  refine j_istore_n X [(2, .int 0), (1, .int 0), (0, .ref (ad 12))] rfl (by decide) rfl dX0_edgesTogether_3 ?_
  have loop1 : ∀ (n_1 i_1 : Nat) (v1_i_1 : Int32), i_1 ≤ n → n - i_1 < n_1 → J p l e (rmN 0) s m args below meth c 0 0 (QI (fun _ M' => M = M') D y ad M s args below) D y ad (va_A (PL y ad M) s.heap.size) 3 M 4 [(2, .int (nI i_1)), (0, .ref (ad 12)), (1, .int v1_i_1)] [] := by
    intro n_1
    induction n_1 with
    | zero => intro i_1  v1_i_1 h1 h2; exact absurd h2 (by omega)
    | succ n_1 ih1 =>
      intro i_1  v1_i_1 h1i_1 h2i_1 
      refine j_iload_n X 0 rfl rfl dX0_edgesTogether_4 ?_
      refine j_aload_n X 1 rfl rfl dX0_edgesTogether_5 ?_
      refine j_get X (by decide) (wE_0 _ rfl) rfl awF0 3 (by decide) aw_155 rfl (v := .int (M 12 3)) rfl dX0_edgesTogether_6 ?_
      refine j_eqi (v := (nI n)) hm ?_
      refine j_icmp_ge X 30 (by decide) dX0_edgesTogether_9 (fun c_2 => ?_) (fun c_2 => ?_)
      · have c_2 := (nI_leI (by omega) (by omega)).mp (show nI (n) ≤ nI i_1 from c_2)
        refine j_iload_n X 2 rfl rfl dX0_edgesTogether_30 ?_
        exact j_iret X hr hlocks dX0_edgesTogether_31 rfl
      · have c_2 : i_1 < n := by
          rcases Nat.lt_or_ge i_1 (n) with g | g
          · exact g
          · exact absurd (show nI (n) ≤ nI i_1 from nI_le g (by omega)) c_2
        refine j_iload_n X 2 rfl rfl dX0_edgesTogether_12 ?_
        refine j_aload_n X 1 rfl rfl dX0_edgesTogether_13 ?_
        refine j_get X (by decide) (wE_0 _ rfl) rfl awF0 2 (by decide) aw_60 rfl (v := .ref (ad 13)) rfl dX0_edgesTogether_14 ?_
        refine j_iload_n X 0 rfl rfl dX0_edgesTogether_17 ?_
        refine j_aald10 X (by decide) rfl (show vp_in (nI i_1) 9 from vp_in_nI (by omega) (by decide)) dX0_edgesTogether_18 ?_
        refine j_eqr (v := 14 + i_1) (by rw [nI_clamp (by omega)]; exact rf_one12 (by omega)) ?_
        refine j_getN X (by omega) (wE_1 _ (kd_one12 (by omega))) rfl awF1 3 (by decide) (List.mem_of_getElem? (i := 7) rfl) rfl (v := .int (M (14 + i_1) 3)) rfl dX0_edgesTogether_19 ?_
        refine j_iadd X dX0_edgesTogether_22 ?_
        refine j_istore_n X [(1, .int (v1_i_1 + (M (14 + i_1) 3))), (2, .int (nI i_1)), (0, .ref (ad 12))] rfl (by decide) rfl dX0_edgesTogether_23 ?_
        refine j_iinc X (v := (nI (i_1 + 1))) 1 [(2, .int (nI (i_1 + 1))), (1, .int (v1_i_1 + (M (14 + i_1) 3))), (0, .ref (ad 12))] rfl (show nI i_1 + Int32.ofInt 1 = _ from nI_1 i_1) (by decide) rfl dX0_edgesTogether_24 ?_
        refine j_goto X 4 (by decide) dX0_edgesTogether_27 ?_
        refine j_lv (lv1 := [(2, .int (nI (i_1 + 1))), (0, .ref (ad 12)), (1, .int (v1_i_1 + (M (14 + i_1) 3)))]) [0, 2, 1] rfl ?_
        exact ih1 (i_1 + 1) _ (by omega) (by omega) 
  refine j_lv (lv1 := [(2, .int (nI 0)), (0, .ref (ad 12)), (1, .int 0)]) [0, 2, 1] rfl ?_
  exact loop1 (n + 1) 0 _ (by omega) (by omega)
set_option maxRecDepth 100000 in
set_option maxHeartbeats 4000000 in
theorem g_setFree_12 (l : Launch) (D : va_G) (y : wY) (ad : Nat → Nat) (M : Mem) (n : Nat) (hn : n ≤ 9) (hm : M 12 3 = nI n) : MI l D y ad yX0_setFree (Cond.code yX0_setFree cX0_setFree 3 (some .int)) 2 M [.ref (ad 12)] (fun _ M' => M = M') := by
  refine MI_of (by decide) (Nat.le_of_ble_eq_true rfl) ?_
  intro p e s m args below meth c X hr hlocks
  refine j_lv (lv1 := [(0, .ref (ad 12))]) [0] rfl ?_
  refine j_iconst X (v := 0) (by decide) dX0_setFree_0 ?_
  refine j_istore_n X [(1, .int 0), (0, .ref (ad 12))] rfl (by decide) rfl dX0_setFree_1 ?_
  refine j_iconst X (v := 0) (by decide) dX0_setFree_2 ?_
  refine j_istore_n X [(2, .int 0), (1, .int 0), (0, .ref (ad 12))] rfl (by decide) rfl dX0_setFree_3 ?_
  have loop1 : ∀ (n_1 i_1 : Nat) (v1_i_1 : Int32), i_1 ≤ n → n - i_1 < n_1 → J p l e (rmN 2) s m args below meth c 0 0 (QI (fun _ M' => M = M') D y ad M s args below) D y ad (va_A (PL y ad M) s.heap.size) 3 M 4 [(2, .int (nI i_1)), (0, .ref (ad 12)), (1, .int v1_i_1)] [] := by
    intro n_1
    induction n_1 with
    | zero => intro i_1  v1_i_1 h1 h2; exact absurd h2 (by omega)
    | succ n_1 ih1 =>
      intro i_1  v1_i_1 h1i_1 h2i_1 
      refine j_iload_n X 0 rfl rfl dX0_setFree_4 ?_
      refine j_aload_n X 1 rfl rfl dX0_setFree_5 ?_
      refine j_get X (by decide) (wE_0 _ rfl) rfl awF0 3 (by decide) aw_155 rfl (v := .int (M 12 3)) rfl dX0_setFree_6 ?_
      refine j_eqi (v := (nI n)) hm ?_
      refine j_icmp_ge X 53 (by decide) dX0_setFree_9 (fun c_2 => ?_) (fun c_2 => ?_)
      · have c_2 := (nI_leI (by omega) (by omega)).mp (show nI (n) ≤ nI i_1 from c_2)
        refine j_iload_n X 2 rfl rfl dX0_setFree_53 ?_
        exact j_iret X hr hlocks dX0_setFree_54 rfl
      · have c_2 : i_1 < n := by
          rcases Nat.lt_or_ge i_1 (n) with g | g
          · exact g
          · exact absurd (show nI (n) ≤ nI i_1 from nI_le g (by omega)) c_2
        refine j_iload_n X 2 rfl rfl dX0_setFree_12 ?_
        refine j_aload_n X 1 rfl rfl dX0_setFree_13 ?_
        refine j_get X (by decide) (wE_0 _ rfl) rfl awF0 2 (by decide) aw_60 rfl (v := .ref (ad 13)) rfl dX0_setFree_14 ?_
        refine j_iload_n X 0 rfl rfl dX0_setFree_17 ?_
        refine j_aald10 X (by decide) rfl (show vp_in (nI i_1) 9 from vp_in_nI (by omega) (by decide)) dX0_setFree_18 ?_
        refine j_eqr (v := 14 + i_1) (by rw [nI_clamp (by omega)]; exact rf_one12 (by omega)) ?_
        refine j_getN X (by omega) (wE_1 _ (kd_one12 (by omega))) rfl awF1 6 (by decide) (List.mem_of_getElem? (i := 13) rfl) rfl (v := .int (M (14 + i_1) 6)) rfl dX0_setFree_19 ?_
        refine j_if_ne X 44 (by decide) dX0_setFree_22 (fun c_3 => ?_) (fun c_3 => ?_)
        · have qc_3 := ti_ne (n := 0) (by decide) c_3
          refine j_iconst X (v := 0) (by decide) dX0_setFree_44 ?_
          refine j_ior X dX0_setFree_45 ?_
          refine j_istore_n X [(1, .int (v1_i_1 ||| 0)), (2, .int (nI i_1)), (0, .ref (ad 12))] rfl (by decide) rfl dX0_setFree_46 ?_
          refine j_iinc X (v := (nI (i_1 + 1))) 1 [(2, .int (nI (i_1 + 1))), (1, .int (v1_i_1 ||| 0)), (0, .ref (ad 12))] rfl (show nI i_1 + Int32.ofInt 1 = _ from nI_1 i_1) (by decide) rfl dX0_setFree_47 ?_
          refine j_goto X 4 (by decide) dX0_setFree_50 ?_
          refine j_lv (lv1 := [(2, .int (nI (i_1 + 1))), (0, .ref (ad 12)), (1, .int (v1_i_1 ||| 0))]) [0, 2, 1] rfl ?_
          exact ih1 (i_1 + 1) _ (by omega) (by omega) 
        · have qc_3 := ti_eq (n := 0) (by decide) c_3
          refine j_aload_n X 1 rfl rfl dX0_setFree_25 ?_
          refine j_aload_n X 1 rfl rfl dX0_setFree_26 ?_
          refine j_get X (by decide) (wE_0 _ rfl) rfl awF0 2 (by decide) aw_60 rfl (v := .ref (ad 13)) rfl dX0_setFree_27 ?_
          refine j_iload_n X 0 rfl rfl dX0_setFree_30 ?_
          refine j_aald10 X (by decide) rfl (show vp_in (nI i_1) 9 from vp_in_nI (by omega) (by decide)) dX0_setFree_31 ?_
          refine j_eqr (v := 14 + i_1) (by rw [nI_clamp (by omega)]; exact rf_one12 (by omega)) ?_
          refine j_callVI X (nn := 1) (As := [.ref (ad (14 + i_1))]) (st := [.int v1_i_1]) (ci := 0) (by decide) (wE_0 _ rfl) rfl aw_459 aw_460 (g_isFree_12 l D y ad M n (by omega) hm i_1 (by omega)) aw_458 aw_461 aw_20 (by decide +kernel) ⟨by decide, by decide⟩ rfl (Nat.le_of_ble_eq_true rfl) ⟨by decide, by decide⟩ dX0_setFree_32 ?_
          rintro r_ M1_ (⟨rfl, rfl⟩ | ⟨rfl, rfl⟩)
          · refine j_if_eq X 44 (by decide) dX0_setFree_35 (fun c_4 => ?_) (fun c_4 => False.elim (by revert c_4; decide))
            refine j_iconst X (v := 0) (by decide) dX0_setFree_44 ?_
            refine j_ior X dX0_setFree_45 ?_
            refine j_istore_n X [(1, .int (v1_i_1 ||| 0)), (2, .int (nI i_1)), (0, .ref (ad 12))] rfl (by decide) rfl dX0_setFree_46 ?_
            refine j_iinc X (v := (nI (i_1 + 1))) 1 [(2, .int (nI (i_1 + 1))), (1, .int (v1_i_1 ||| 0)), (0, .ref (ad 12))] rfl (show nI i_1 + Int32.ofInt 1 = _ from nI_1 i_1) (by decide) rfl dX0_setFree_47 ?_
            refine j_goto X 4 (by decide) dX0_setFree_50 ?_
            refine j_lv (lv1 := [(2, .int (nI (i_1 + 1))), (0, .ref (ad 12)), (1, .int (v1_i_1 ||| 0))]) [0, 2, 1] rfl ?_
            exact ih1 (i_1 + 1) _ (by omega) (by omega) 
          · refine j_if_eq X 44 (by decide) dX0_setFree_35 (fun c_5 => False.elim (by revert c_5; decide)) (fun c_5 => ?_)
            refine j_iconst X (v := 1) (by decide) dX0_setFree_38 ?_
            refine j_iload_n X 0 rfl rfl dX0_setFree_39 ?_
            refine j_ishl X dX0_setFree_40 ?_
            refine j_goto X 45 (by decide) dX0_setFree_41 ?_
            refine j_ior X dX0_setFree_45 ?_
            refine j_istore_n X [(1, .int (v1_i_1 ||| (1 <<< ((nI i_1) &&& 31)))), (2, .int (nI i_1)), (0, .ref (ad 12))] rfl (by decide) rfl dX0_setFree_46 ?_
            refine j_iinc X (v := (nI (i_1 + 1))) 1 [(2, .int (nI (i_1 + 1))), (1, .int (v1_i_1 ||| (1 <<< ((nI i_1) &&& 31)))), (0, .ref (ad 12))] rfl (show nI i_1 + Int32.ofInt 1 = _ from nI_1 i_1) (by decide) rfl dX0_setFree_47 ?_
            refine j_goto X 4 (by decide) dX0_setFree_50 ?_
            refine j_lv (lv1 := [(2, .int (nI (i_1 + 1))), (0, .ref (ad 12)), (1, .int (v1_i_1 ||| (1 <<< ((nI i_1) &&& 31))))]) [0, 2, 1] rfl ?_
            exact ih1 (i_1 + 1) _ (by omega) (by omega) 
  refine j_lv (lv1 := [(2, .int (nI 0)), (0, .ref (ad 12)), (1, .int 0)]) [0, 2, 1] rfl ?_
  exact loop1 (n + 1) 0 _ (by omega) (by omega)
set_option maxRecDepth 100000 in
set_option maxHeartbeats 4000000 in
theorem g_sharpen_49 (l : Launch) (D : va_G) (y : wY) (ad : Nat → Nat) (M : Mem) (n : Nat) (hn : n ≤ 9) (hm : M 49 3 = nI n) (set0 : Int32) : MV l D y ad yX0_sharpen (Cond.code yX0_sharpen cX0_sharpen 3 none) 0 M [.ref (ad 49), .int set0] (fun M' => sm (fun b k => decide (51 ≤ b) && decide (b ≤ 59) && k == 3) M M') := by
  refine MV_of (by decide) (Nat.le_of_ble_eq_true rfl) ?_
  intro p e s m args below meth c X hr hlocks
  refine j_lv (lv1 := [(0, .ref (ad 49)), (1, .int set0)]) [0, 1] rfl ?_
  refine j_iconst X (v := 0) (by decide) dX0_sharpen_0 ?_
  refine j_istore_n X [(2, .int 0), (0, .ref (ad 49)), (1, .int set0)] rfl (by decide) rfl dX0_sharpen_1 ?_
  have loop1 : ∀ (n_1 i_1 : Nat) (M1 : Mem), i_1 ≤ n → n - i_1 < n_1 → sm (fun b k => decide (51 ≤ b) && decide (b ≤ 59) && k == 3) M M1 → J p l e (rmN 0) s m args below meth c 0 0 (QV (fun M' => sm (fun b k => decide (51 ≤ b) && decide (b ≤ 59) && k == 3) M M') D y ad M s args below) D y ad (va_A (PL y ad M) s.heap.size) 3 M1 2 [(2, .int (nI i_1)), (0, .ref (ad 49)), (1, .int set0)] [] := by
    intro n_1
    induction n_1 with
    | zero => intro i_1 M1 h1 h2; exact absurd h2 (by omega)
    | succ n_1 ih1 =>
      intro i_1 M1 h1i_1 h2i_1 hs1
      refine j_iload_n X 0 rfl rfl dX0_sharpen_2 ?_
      refine j_aload_n X 1 rfl rfl dX0_sharpen_3 ?_
      refine j_get X (by decide) (wE_0 _ rfl) rfl awF0 3 (by decide) aw_155 rfl (v := .int (M1 49 3)) rfl dX0_sharpen_4 ?_
      refine j_eqi (v := (nI n)) ((hs1 49 3 rfl).trans hm) ?_
      refine j_icmp_ge X 35 (by decide) dX0_sharpen_7 (fun c_2 => ?_) (fun c_2 => ?_)
      · have c_2 := (nI_leI (by omega) (by omega)).mp (show nI (n) ≤ nI i_1 from c_2)
        exact j_vret X hr hlocks dX0_sharpen_35 (sm_tr sm_rf (sm_w hs1 (by intro b k hb; first | rfl | exact hb | (simp only [Bool.or_eq_false_iff, Bool.and_eq_false_iff, beq_eq_false_iff_ne, ne_eq, decide_eq_false_iff_not] at hb ⊢; omega))))
      · have c_2 : i_1 < n := by
          rcases Nat.lt_or_ge i_1 (n) with g | g
          · exact g
          · exact absurd (show nI (n) ≤ nI i_1 from nI_le g (by omega)) c_2
        refine j_iload_n X 2 rfl rfl dX0_sharpen_10 ?_
        refine j_iload_n X 0 rfl rfl dX0_sharpen_11 ?_
        refine j_ishr X dX0_sharpen_12 ?_
        refine j_iconst X (v := 1) (by decide) dX0_sharpen_13 ?_
        refine j_iand X dX0_sharpen_14 ?_
        refine j_if_eq X 29 (by decide) dX0_sharpen_15 (fun c_3 => ?_) (fun c_3 => ?_)
        · refine j_iinc X (v := (nI (i_1 + 1))) 0 [(2, .int (nI (i_1 + 1))), (0, .ref (ad 49)), (1, .int set0)] rfl (show nI i_1 + Int32.ofInt 1 = _ from nI_1 i_1) (by decide) rfl dX0_sharpen_29 ?_
          refine j_goto X 2 (by decide) dX0_sharpen_32 ?_
          refine j_lv (lv1 := [(2, .int (nI (i_1 + 1))), (0, .ref (ad 49)), (1, .int set0)]) [0, 1, 2] rfl ?_
          exact ih1 (i_1 + 1) _ (by omega) (by omega) hs1
        · refine j_aload_n X 1 rfl rfl dX0_sharpen_18 ?_
          refine j_get X (by decide) (wE_0 _ rfl) rfl awF0 2 (by decide) aw_60 rfl (v := .ref (ad 50)) rfl dX0_sharpen_19 ?_
          refine j_iload_n X 0 rfl rfl dX0_sharpen_22 ?_
          refine j_aald10 X (by decide) rfl (show vp_in (nI i_1) 9 from vp_in_nI (by omega) (by decide)) dX0_sharpen_23 ?_
          refine j_eqr (v := 51 + i_1) (by rw [nI_clamp (by omega)]; exact rf_one49 (by omega)) ?_
          refine j_bipush X (v := 99) (by decide) dX0_sharpen_24 ?_
          refine j_putN X (up M1 (51 + i_1) 3 99) up_o (by omega) (wE_1 _ (kd_one49 (by omega))) rfl awF1 3 (by decide) (wP_1_3 _ _ (kd_one49 (by omega))) tyX1 tyX1_ok nmX1 rfl (ty := .int) (by decide +kernel) rfl rfl (Nat.le_of_ble_eq_true rfl) (List.mem_of_getElem? (i := 7) rfl) rfl dX0_sharpen_26 ?_
          refine j_iinc X (v := (nI (i_1 + 1))) 0 [(2, .int (nI (i_1 + 1))), (0, .ref (ad 49)), (1, .int set0)] rfl (show nI i_1 + Int32.ofInt 1 = _ from nI_1 i_1) (by decide) rfl dX0_sharpen_29 ?_
          refine j_goto X 2 (by decide) dX0_sharpen_32 ?_
          refine j_lv (lv1 := [(2, .int (nI (i_1 + 1))), (0, .ref (ad 49)), (1, .int set0)]) [0, 1, 2] rfl ?_
          exact ih1 (i_1 + 1) _ (by omega) (by omega) (sm_up hs1 (by first | rfl | (simp; done) | (simp; omega) | (simp only [Bool.and_eq_true, Bool.or_eq_true, decide_eq_true_eq, beq_iff_eq]; omega)))
  refine j_lv (lv1 := [(2, .int (nI 0)), (0, .ref (ad 49)), (1, .int set0)]) [0, 1, 2] rfl ?_
  exact loop1 (n + 1) 0 _ (by omega) (by omega) sm_rf
set_option maxRecDepth 100000 in
set_option maxHeartbeats 4000000 in
theorem g_refuse (l : Launch) (D : va_G) (y : wY) (ad : Nat → Nat) (M : Mem) (v : Int32) (i : Nat) (hv : (-1000000000) - v = nI i) (hi : i < 6) : MI l D y ad yX7_refuse (Cond.code yX7_refuse cX7_refuse 2 (some .int)) 0 M [.ref (ad 0), .int v] (fun r M' => v = r ∧ sm (fun b _ => b == 78) M M') := by
  refine MI_of (by decide) (Nat.le_of_ble_eq_true rfl) ?_
  intro p e s m args below meth c X hr hlocks
  refine j_lv (lv1 := [(0, .ref (ad 0)), (1, .int v)]) [0, 1] rfl ?_
  refine j_aload_n X 0 rfl rfl dX7_refuse_0 ?_
  refine j_get X (by decide) (wE_7 _ rfl) rfl awF7 6 (by decide) aw_33 rfl (v := .ref (ad 78)) rfl dX7_refuse_1 ?_
  refine j_ldcw X (v := (-1000000000)) aw_120 dX7_refuse_4 ?_
  refine j_iload_n X 1 rfl rfl dX7_refuse_7 ?_
  refine j_isub X dX7_refuse_8 ?_
  refine j_dup2 X rfl rfl dX7_refuse_9 ?_
  refine j_iald X (by decide) rfl (by rw [hv]; exact vp_in_nI hi (by decide)) dX7_refuse_10 ?_
  refine j_eqi (v := M 78 i) (by rw [hv, nI_clamp (by omega)]) ?_
  refine j_iconst X (v := 1) (by decide) dX7_refuse_11 ?_
  refine j_iadd X dX7_refuse_12 ?_
  refine j_iast X (by decide) rfl (by rw [hv]; exact vp_in_nI hi (by decide)) dX7_refuse_13 ?_
  refine j_eqM (M1 := (up M 78 i ((M 78 i) + 1))) (by rw [hv, nI_clamp (by omega)]) ?_
  refine j_iload_n X 1 rfl rfl dX7_refuse_14 ?_
  exact j_iret X hr hlocks dX7_refuse_15 ⟨rfl, sm_up sm_rf rfl⟩
set_option maxRecDepth 100000 in
set_option maxHeartbeats 4000000 in
theorem g_isQuarrel (l : Launch) (D : va_G) (y : wY) (ad : Nat → Nat) (M : Mem) (n : Nat) (hn : n ≤ 9) (hm : M 12 3 = nI n) (q : Int32) : MI l D y ad yX7_isQuarrel (Cond.code yX7_isQuarrel cX7_isQuarrel 2 (some .boolean)) 1 M [.ref (ad 0), .int q] (fun r M' => (1 = r ∧ M = M' ∧ 0 ≤ q.toInt ∧ q.toInt < n) ∨ (0 = r ∧ M = M')) := by
  refine MI_of (by decide) (Nat.le_of_ble_eq_true rfl) ?_
  intro p e s m args below meth c X hr hlocks
  refine j_lv (lv1 := [(0, .ref (ad 0)), (1, .int q)]) [0, 1] rfl ?_
  refine j_iload_n X 1 rfl rfl dX7_isQuarrel_0 ?_
  refine j_iconst X (v := 0) (by decide) dX7_isQuarrel_1 ?_
  refine j_aload_n X 0 rfl rfl dX7_isQuarrel_2 ?_
  refine j_get X (by decide) (wE_7 _ rfl) rfl awF7 0 (by decide) aw_16 rfl (v := .ref (ad 1)) rfl dX7_isQuarrel_3 ?_
  refine j_getN X (by decide) (wE_6 _ rfl) rfl awF6 2 (by decide) (List.mem_of_getElem? (i := 23) rfl) rfl (v := .ref (ad 12)) rfl dX7_isQuarrel_6 ?_
  refine j_getN X (by decide) (wE_0 _ rfl) rfl awF0 3 (by decide) (List.mem_of_getElem? (i := 15) rfl) rfl (v := .int (M 12 3)) rfl dX7_isQuarrel_9 ?_
  refine j_eqi (v := (nI n)) hm ?_
  refine j_iconst X (v := 1) (by decide) dX7_isQuarrel_12 ?_
  refine j_isub X dX7_isQuarrel_13 ?_
  refine j_callSI X (nn := 3) (As := [.int q, .int 0, .int ((nI n) - 1)]) (st := []) aw_110 (g_X7_isWithin l D y ad M q 0 ((nI n) - 1) 0 (((n : Nat) : Int) - 1) (by decide) (nI_m1 (by omega))) aw_109 aw_111 aw_2 (by decide +kernel) ⟨by decide, by decide⟩ rfl (Nat.le_of_ble_eq_true rfl) ⟨by decide, by decide⟩ dX7_isQuarrel_14 ?_
  rintro r_ M1_ (⟨rfl, rfl, h_1⟩ | ⟨rfl, rfl, h_1⟩)
  · exact j_zret X hr hlocks (Or.inr rfl) dX7_isQuarrel_17 (Or.inl ⟨rfl, rfl, by omega⟩)
  · exact j_zret X hr hlocks (Or.inl rfl) dX7_isQuarrel_17 (Or.inr ⟨rfl, rfl⟩)
set_option maxRecDepth 100000 in
set_option maxHeartbeats 4000000 in
theorem g_greatestOf (l : Launch) (D : va_G) (y : wY) (ad : Nat → Nat) (M : Mem) (v : Int32) : MI l D y ad yX7_greatestOf (Cond.code yX7_greatestOf cX7_greatestOf 3 (some .int)) 0 M [.int v] (fun _ M' => M = M') := by
  refine MI_of (by decide) (Nat.le_of_ble_eq_true rfl) ?_
  intro p e s m args below meth c X hr hlocks
  refine j_lv (lv1 := [(0, .int v)]) [0] rfl ?_
  refine j_iconst X (v := (-1)) (by decide) dX7_greatestOf_0 ?_
  refine j_istore_n X [(1, .int (-1)), (0, .int v)] rfl (by decide) rfl dX7_greatestOf_1 ?_
  refine j_iconst X (v := 0) (by decide) dX7_greatestOf_2 ?_
  refine j_istore_n X [(2, .int 0), (1, .int (-1)), (0, .int v)] rfl (by decide) rfl dX7_greatestOf_3 ?_
  have loop1 : ∀ (n_1 i_1 : Nat) (v1_i_1 : Int32), i_1 ≤ 9 → 9 - i_1 < n_1 → J p l e (rmN 0) s m args below meth c 0 0 (QI (fun _ M' => M = M') D y ad M s args below) D y ad (va_A (PL y ad M) s.heap.size) 3 M 4 [(2, .int (nI i_1)), (0, .int v), (1, .int v1_i_1)] [] := by
    intro n_1
    induction n_1 with
    | zero => intro i_1  v1_i_1 h1 h2; exact absurd h2 (by omega)
    | succ n_1 ih1 =>
      intro i_1  v1_i_1 h1i_1 h2i_1 
      refine j_iload_n X 0 rfl rfl dX7_greatestOf_4 ?_
      refine j_bipush X (v := 9) (by decide) dX7_greatestOf_5 ?_
      refine j_icmp_ge X 26 (by decide) dX7_greatestOf_7 (fun c_2 => ?_) (fun c_2 => ?_)
      · have c_2 := (nI_leI (by omega) (by omega)).mp (show nI (9) ≤ nI i_1 from c_2)
        refine j_iload_n X 2 rfl rfl dX7_greatestOf_26 ?_
        exact j_iret X hr hlocks dX7_greatestOf_27 rfl
      · have c_2 : i_1 < 9 := by
          rcases Nat.lt_or_ge i_1 (9) with g | g
          · exact g
          · exact absurd (show nI (9) ≤ nI i_1 from nI_le g (by omega)) c_2
        refine j_iload_n X 1 rfl rfl dX7_greatestOf_10 ?_
        refine j_iload_n X 0 rfl rfl dX7_greatestOf_11 ?_
        refine j_ishr X dX7_greatestOf_12 ?_
        refine j_iconst X (v := 1) (by decide) dX7_greatestOf_13 ?_
        refine j_iand X dX7_greatestOf_14 ?_
        refine j_if_eq X 20 (by decide) dX7_greatestOf_15 (fun c_3 => ?_) (fun c_3 => ?_)
        · refine j_iinc X (v := (nI (i_1 + 1))) 0 [(2, .int (nI (i_1 + 1))), (0, .int v), (1, .int v1_i_1)] rfl (show nI i_1 + Int32.ofInt 1 = _ from nI_1 i_1) (by decide) rfl dX7_greatestOf_20 ?_
          refine j_goto X 4 (by decide) dX7_greatestOf_23 ?_
          refine j_lv (lv1 := [(2, .int (nI (i_1 + 1))), (0, .int v), (1, .int v1_i_1)]) [0, 1, 2] rfl ?_
          exact ih1 (i_1 + 1) _ (by omega) (by omega) 
        · refine j_iload_n X 0 rfl rfl dX7_greatestOf_18 ?_
          refine j_istore_n X [(1, .int (nI i_1)), (2, .int (nI i_1)), (0, .int v)] rfl (by decide) rfl dX7_greatestOf_19 ?_
          refine j_iinc X (v := (nI (i_1 + 1))) 1 [(2, .int (nI (i_1 + 1))), (1, .int (nI i_1)), (0, .int v)] rfl (show nI i_1 + Int32.ofInt 1 = _ from nI_1 i_1) (by decide) rfl dX7_greatestOf_20 ?_
          refine j_goto X 4 (by decide) dX7_greatestOf_23 ?_
          refine j_lv (lv1 := [(2, .int (nI (i_1 + 1))), (0, .int v), (1, .int (nI i_1))]) [0, 2, 1] rfl ?_
          exact ih1 (i_1 + 1) _ (by omega) (by omega) 
  refine j_lv (lv1 := [(2, .int (nI 0)), (0, .int v), (1, .int (-1))]) [0, 2, 1] rfl ?_
  exact loop1 (9 + 1) 0 _ (by omega) (by omega)
theorem sme_b1 {b q : Nat} {M M1 : Mem} (h : sme b M M1) (hq : q < 9) (hB : BoolOK (M (b + q) 6)) : BoolOK (M1 (b + q) 6) := by
  rcases h q hq with e | e
  · rw [e]; exact hB
  · rw [e]; exact Or.inr rfl
set_option maxRecDepth 100000 in
set_option maxHeartbeats 4000000 in
theorem g_endsInThought (l : Launch) (D : va_G) (y : wY) (ad : Nat → Nat) (M : Mem) (n : Nat) (hn : n ≤ 9) (hm : M 49 3 = nI n) (z2 z7 : Nat) (hT2 : TextOK M 2 z2) (hT7 : TextOK M 7 z7) (q : Nat) (hq : q < n) (N : Nat) (hN : N ≤ 60) (hBt : ∀ q, q < n → BoolOK (M (51 + q) 6)) : MI l D y ad yX7_endsInThought (Cond.code yX7_endsInThought cX7_endsInThought 5 (some .boolean)) 7 M [.ref (ad 0), .int (nI q), .int (nI N)] (fun r M' => (0 = r ∧ sm (fun b k => b == 6 || b == 11 || (b == 49 && (k == 4 || k == 6 || k == 7 || k == 8)) || (decide (51 ≤ b) && decide (b ≤ 59) && (k == 3 || k == 5 || k == 6))) M M') ∨ (1 = r ∧ sm (fun b k => b == 6 || b == 11 || (b == 49 && (k == 4 || k == 6 || k == 7 || k == 8)) || (decide (51 ≤ b) && decide (b ≤ 59) && (k == 3 || k == 5 || k == 6))) M M')) := by
  refine MI_of (by decide) (Nat.le_of_ble_eq_true rfl) ?_
  intro p e s m args below meth c X hr hlocks
  refine j_lv (lv1 := [(0, .ref (ad 0)), (1, .int (nI q)), (2, .int (nI N))]) [0, 1, 2] rfl ?_
  refine j_aload_n X 0 rfl rfl dX7_endsInThought_0 ?_
  refine j_get X (by decide) (wE_7 _ rfl) rfl awF7 2 (by decide) aw_21 rfl (v := .ref (ad 49)) rfl dX7_endsInThought_1 ?_
  refine j_getN X (by decide) (wE_0 _ rfl) rfl awF0 2 (by decide) (List.mem_of_getElem? (i := 14) rfl) rfl (v := .ref (ad 50)) rfl dX7_endsInThought_4 ?_
  refine j_iload_n X 1 rfl rfl dX7_endsInThought_7 ?_
  refine j_aald10 X (by decide) rfl (show vp_in (nI q) 9 from vp_in_nI (by omega) (by decide)) dX7_endsInThought_8 ?_
  refine j_eqr (v := 51 + q) (by rw [nI_clamp (by omega)]; exact rf_one49 (by omega)) ?_
  refine j_astore_n X [(3, .ref (ad (51 + q))), (0, .ref (ad 0)), (1, .int (nI q)), (2, .int (nI N))] rfl (by decide) rfl dX7_endsInThought_9 ?_
  refine j_iconst X (v := 0) (by decide) dX7_endsInThought_10 ?_
  refine j_istore X [(4, .int 0), (3, .ref (ad (51 + q))), (0, .ref (ad 0)), (1, .int (nI q)), (2, .int (nI N))] (by decide) rfl dX7_endsInThought_11 ?_
  have loop1 : ∀ (n_1 i_1 : Nat) (M1 : Mem), i_1 ≤ N → N - i_1 < n_1 → sm (fun b k => b == 6 || b == 11 || (b == 49 && (k == 4 || k == 6 || k == 7 || k == 8)) || (decide (51 ≤ b) && decide (b ≤ 59) && (k == 3 || k == 5 || k == 6))) M M1 → (sme 51 M M1) → J p l e (rmN 7) s m args below meth c 0 0 (QI (fun r M' => (0 = r ∧ sm (fun b k => b == 6 || b == 11 || (b == 49 && (k == 4 || k == 6 || k == 7 || k == 8)) || (decide (51 ≤ b) && decide (b ≤ 59) && (k == 3 || k == 5 || k == 6))) M M') ∨ (1 = r ∧ sm (fun b k => b == 6 || b == 11 || (b == 49 && (k == 4 || k == 6 || k == 7 || k == 8)) || (decide (51 ≤ b) && decide (b ≤ 59) && (k == 3 || k == 5 || k == 6))) M M')) D y ad M s args below) D y ad (va_A (PL y ad M) s.heap.size) 5 M1 13 [(4, .int (nI i_1)), (0, .ref (ad 0)), (1, .int (nI q)), (2, .int (nI N)), (3, .ref (ad (51 + q)))] [] := by
    intro n_1
    induction n_1 with
    | zero => intro i_1 M1 h1 h2; exact absurd h2 (by omega)
    | succ n_1 ih1 =>
      intro i_1 M1 h1i_1 h2i_1 hs1 hvi_1
      refine j_iload X 0 rfl dX7_endsInThought_13 ?_
      refine j_iload_n X 3 rfl rfl dX7_endsInThought_15 ?_
      refine j_icmp_ge X 40 (by decide) dX7_endsInThought_16 (fun c_2 => ?_) (fun c_2 => ?_)
      · have c_2 := (nI_leI (by omega) (by omega)).mp (show nI (N) ≤ nI i_1 from c_2)
        refine j_aload_n X 4 rfl rfl dX7_endsInThought_40 ?_
        refine j_getN X (by omega) (wE_1 _ (kd_one49 (by omega))) rfl awF1 6 (by decide) (List.mem_of_getElem? (i := 12) rfl) rfl (v := .int (M1 (51 + q) 6)) rfl dX7_endsInThought_41 ?_
        exact j_zret X hr hlocks (sme_b1 hvi_1 (by omega) (hBt q hq)) dX7_endsInThought_44 (by rcases sme_b1 hvi_1 (by omega) (hBt q hq) with e0 | e0; exact Or.inl ⟨e0.symm, (sm_tr sm_rf (sm_w hs1 (by intro b k hb; first | rfl | exact hb | (simp only [Bool.or_eq_false_iff, Bool.and_eq_false_iff, beq_eq_false_iff_ne, ne_eq, decide_eq_false_iff_not] at hb ⊢; omega))))⟩; exact Or.inr ⟨e0.symm, (sm_tr sm_rf (sm_w hs1 (by intro b k hb; first | rfl | exact hb | (simp only [Bool.or_eq_false_iff, Bool.and_eq_false_iff, beq_eq_false_iff_ne, ne_eq, decide_eq_false_iff_not] at hb ⊢; omega))))⟩)
      · have c_2 : i_1 < N := by
          rcases Nat.lt_or_ge i_1 (N) with g | g
          · exact g
          · exact absurd (show nI (N) ≤ nI i_1 from nI_le g (by omega)) c_2
        refine j_aload_n X 4 rfl rfl dX7_endsInThought_19 ?_
        refine j_getN X (by omega) (wE_1 _ (kd_one49 (by omega))) rfl awF1 6 (by decide) (List.mem_of_getElem? (i := 12) rfl) rfl (v := .int (M1 (51 + q) 6)) rfl dX7_endsInThought_20 ?_
        refine j_if_ne X 40 (by decide) dX7_endsInThought_23 (fun c_3 => ?_) (fun c_3 => ?_)
        · have qc_3 := ti_ne (n := 0) (by decide) c_3
          refine j_aload_n X 4 rfl rfl dX7_endsInThought_40 ?_
          refine j_getN X (by omega) (wE_1 _ (kd_one49 (by omega))) rfl awF1 6 (by decide) (List.mem_of_getElem? (i := 12) rfl) rfl (v := .int (M1 (51 + q) 6)) rfl dX7_endsInThought_41 ?_
          exact j_zret X hr hlocks (sme_b1 hvi_1 (by omega) (hBt q hq)) dX7_endsInThought_44 (by rcases sme_b1 hvi_1 (by omega) (hBt q hq) with e0 | e0; exact Or.inl ⟨e0.symm, (sm_tr sm_rf (sm_w hs1 (by intro b k hb; first | rfl | exact hb | (simp only [Bool.or_eq_false_iff, Bool.and_eq_false_iff, beq_eq_false_iff_ne, ne_eq, decide_eq_false_iff_not] at hb ⊢; omega))))⟩; exact Or.inr ⟨e0.symm, (sm_tr sm_rf (sm_w hs1 (by intro b k hb; first | rfl | exact hb | (simp only [Bool.or_eq_false_iff, Bool.and_eq_false_iff, beq_eq_false_iff_ne, ne_eq, decide_eq_false_iff_not] at hb ⊢; omega))))⟩)
        · have qc_3 := ti_eq (n := 0) (by decide) c_3
          refine j_aload_n X 1 rfl rfl dX7_endsInThought_26 ?_
          refine j_get X (by decide) (wE_7 _ rfl) rfl awF7 2 (by decide) aw_21 rfl (v := .ref (ad 49)) rfl dX7_endsInThought_27 ?_
          refine j_iconst X (v := 0) (by decide) dX7_endsInThought_30 ?_
          refine j_callVNV X (nn := 1) (As := [.int 0]) (st := []) (ci := 0) (by decide) (wE_0 _ rfl) rfl aw_439 aw_440 (g_passDay_49 l D y ad M1 n (by omega) ((hs1 49 3 rfl).trans hm) z2 z7 (TextOK_keep (P := (fun b k => b == 6 || b == 11 || (b == 49 && (k == 4 || k == 6 || k == 7 || k == 8)) || (decide (51 ≤ b) && decide (b ≤ 59) && (k == 3 || k == 5 || k == 6)))) (sm_tr sm_rf (sm_w hs1 (by intro b k hb; first | rfl | exact hb | (simp only [Bool.or_eq_false_iff, Bool.and_eq_false_iff, beq_eq_false_iff_ne, ne_eq, decide_eq_false_iff_not] at hb ⊢; omega)))) (fun _ => rfl) (fun _ => rfl) (fun _ => rfl) (fun _ => rfl) hT2) (TextOK_keep (P := (fun b k => b == 6 || b == 11 || (b == 49 && (k == 4 || k == 6 || k == 7 || k == 8)) || (decide (51 ≤ b) && decide (b ≤ 59) && (k == 3 || k == 5 || k == 6)))) (sm_tr sm_rf (sm_w hs1 (by intro b k hb; first | rfl | exact hb | (simp only [Bool.or_eq_false_iff, Bool.and_eq_false_iff, beq_eq_false_iff_ne, ne_eq, decide_eq_false_iff_not] at hb ⊢; omega)))) (fun _ => rfl) (fun _ => rfl) (fun _ => rfl) (fun _ => rfl) hT7) 0) (List.mem_of_getElem? (i := 27) rfl) aw_441 aw_20 (by decide +kernel) ⟨by decide, by decide⟩ rfl (Nat.le_of_ble_eq_true rfl) ⟨by decide, by decide⟩ dX7_endsInThought_31 ?_
          rintro M_5 ⟨s_4, s_4_e⟩
          refine j_iinc X (v := (nI (i_1 + 1))) 0 [(4, .int (nI (i_1 + 1))), (0, .ref (ad 0)), (1, .int (nI q)), (2, .int (nI N)), (3, .ref (ad (51 + q)))] rfl (show nI i_1 + Int32.ofInt 1 = _ from nI_1 i_1) (by decide) rfl dX7_endsInThought_34 ?_
          refine j_goto X 13 (by decide) dX7_endsInThought_37 ?_
          refine j_lv (lv1 := [(4, .int (nI (i_1 + 1))), (0, .ref (ad 0)), (1, .int (nI q)), (2, .int (nI N)), (3, .ref (ad (51 + q)))]) [0, 1, 2, 3, 4] rfl ?_
          exact ih1 (i_1 + 1) _ (by omega) (by omega) (sm_tr hs1 (sm_w s_4 (by intro b k hb; first | rfl | exact hb | (simp only [Bool.or_eq_false_iff, Bool.and_eq_false_iff, beq_eq_false_iff_ne, ne_eq, decide_eq_false_iff_not] at hb ⊢; omega)))) (sme_tr hvi_1 s_4_e)
  refine j_lv (lv1 := [(4, .int (nI 0)), (0, .ref (ad 0)), (1, .int (nI q)), (2, .int (nI N)), (3, .ref (ad (51 + q)))]) [0, 2, 3, 4, 1] rfl ?_
  exact loop1 (N + 1) 0 _ (by omega) (by omega) sm_rf sme_rf
