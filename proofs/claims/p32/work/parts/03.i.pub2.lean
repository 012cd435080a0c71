theorem dX7_sharp_0 : decode cX7_sharp 0 = .ok (.aload_n 0, 1) := by decide +kernel
theorem dX7_sharp_1 : decode cX7_sharp 1 = .ok (.iload_n 1, 1) := by decide +kernel
theorem dX7_sharp_2 : decode cX7_sharp 2 = .ok (.invokevirtual 117, 3) := by decide +kernel
theorem dX7_sharp_5 : decode cX7_sharp 5 = .ok (.ifCond .eq 13, 3) := by decide +kernel
theorem dX7_sharp_8 : decode cX7_sharp 8 = .ok (.iload_n 2, 1) := by decide +kernel
theorem dX7_sharp_9 : decode cX7_sharp 9 = .ok (.iconst 1, 1) := by decide +kernel
theorem dX7_sharp_10 : decode cX7_sharp 10 = .ok (.bipush 60, 2) := by decide +kernel
theorem dX7_sharp_12 : decode cX7_sharp 12 = .ok (.invokestatic 60, 3) := by decide +kernel
theorem dX7_sharp_15 : decode cX7_sharp 15 = .ok (.ifCond .ne 10, 3) := by decide +kernel
theorem dX7_sharp_25 : decode cX7_sharp 25 = .ok (.iconst 0, 1) := by decide +kernel
theorem dX7_sharp_26 : decode cX7_sharp 26 = .ok (.istore_n 3, 1) := by decide +kernel
theorem dX7_sharp_27 : decode cX7_sharp 27 = .ok (.iload_n 3, 1) := by decide +kernel
theorem dX7_sharp_28 : decode cX7_sharp 28 = .ok (.bipush 99, 2) := by decide +kernel
theorem dX7_sharp_30 : decode cX7_sharp 30 = .ok (.if_icmp .gt 37, 3) := by decide +kernel
theorem dX7_sharp_67 : decode cX7_sharp 67 = .ok (.aload_n 0, 1) := by decide +kernel
theorem dX7_sharp_68 : decode cX7_sharp 68 = .ok (.ldc 197, 2) := by decide +kernel
theorem dX7_sharp_70 : decode cX7_sharp 70 = .ok (.invokevirtual 69, 3) := by decide +kernel
theorem dX7_sharp_73 : decode cX7_sharp 73 = .ok (.ireturn, 1) := by decide +kernel
theorem dX7_sharp_33 : decode cX7_sharp 33 = .ok (.aload_n 0, 1) := by decide +kernel
theorem dX7_sharp_34 : decode cX7_sharp 34 = .ok (.invokevirtual 191, 3) := by decide +kernel
theorem dX7_sharp_37 : decode cX7_sharp 37 = .ok (.aload_n 0, 1) := by decide +kernel
theorem dX7_sharp_38 : decode cX7_sharp 38 = .ok (.getfield 31, 3) := by decide +kernel
theorem dX7_sharp_41 : decode cX7_sharp 41 = .ok (.getfield 91, 3) := by decide +kernel
theorem dX7_sharp_44 : decode cX7_sharp 44 = .ok (.iload_n 1, 1) := by decide +kernel
theorem dX7_sharp_45 : decode cX7_sharp 45 = .ok (.aaload, 1) := by decide +kernel
theorem dX7_sharp_46 : decode cX7_sharp 46 = .ok (.iload_n 3, 1) := by decide +kernel
theorem dX7_sharp_47 : decode cX7_sharp 47 = .ok (.putfield 104, 3) := by decide +kernel
theorem dX7_sharp_50 : decode cX7_sharp 50 = .ok (.aload_n 0, 1) := by decide +kernel
theorem dX7_sharp_51 : decode cX7_sharp 51 = .ok (.iload_n 1, 1) := by decide +kernel
theorem dX7_sharp_52 : decode cX7_sharp 52 = .ok (.iload_n 2, 1) := by decide +kernel
theorem dX7_sharp_53 : decode cX7_sharp 53 = .ok (.invokevirtual 215, 3) := by decide +kernel
theorem dX7_sharp_56 : decode cX7_sharp 56 = .ok (.ifCond .eq 5, 3) := by decide +kernel
theorem dX7_sharp_61 : decode cX7_sharp 61 = .ok (.iinc 3 1, 3) := by decide +kernel
theorem dX7_sharp_64 : decode cX7_sharp 64 = .ok (.goto (-37), 3) := by decide +kernel
theorem dX7_sharp_59 : decode cX7_sharp 59 = .ok (.iload_n 3, 1) := by decide +kernel
theorem dX7_sharp_60 : decode cX7_sharp 60 = .ok (.ireturn, 1) := by decide +kernel
theorem dX7_sharp_18 : decode cX7_sharp 18 = .ok (.aload_n 0, 1) := by decide +kernel
theorem dX7_sharp_19 : decode cX7_sharp 19 = .ok (.ldc 68, 2) := by decide +kernel
theorem dX7_sharp_21 : decode cX7_sharp 21 = .ok (.invokevirtual 69, 3) := by decide +kernel
theorem dX7_sharp_24 : decode cX7_sharp 24 = .ok (.ireturn, 1) := by decide +kernel
theorem dX7_greatestDivisor_0 : decode cX7_greatestDivisor 0 = .ok (.iload_n 1, 1) := by decide +kernel
theorem dX7_greatestDivisor_1 : decode cX7_greatestDivisor 1 = .ok (.istore_n 2, 1) := by decide +kernel
theorem dX7_greatestDivisor_2 : decode cX7_greatestDivisor 2 = .ok (.iload_n 2, 1) := by decide +kernel
theorem dX7_greatestDivisor_3 : decode cX7_greatestDivisor 3 = .ok (.iconst 1, 1) := by decide +kernel
theorem dX7_greatestDivisor_4 : decode cX7_greatestDivisor 4 = .ok (.if_icmp .le 23, 3) := by decide +kernel
theorem dX7_greatestDivisor_27 : decode cX7_greatestDivisor 27 = .ok (.iconst 1, 1) := by decide +kernel
theorem dX7_greatestDivisor_28 : decode cX7_greatestDivisor 28 = .ok (.ireturn, 1) := by decide +kernel
theorem dX7_greatestDivisor_7 : decode cX7_greatestDivisor 7 = .ok (.iload_n 0, 1) := by decide +kernel
theorem dX7_greatestDivisor_8 : decode cX7_greatestDivisor 8 = .ok (.iload_n 2, 1) := by decide +kernel
theorem dX7_greatestDivisor_9 : decode cX7_greatestDivisor 9 = .ok (.irem, 1) := by decide +kernel
theorem dX7_greatestDivisor_10 : decode cX7_greatestDivisor 10 = .ok (.ifCond .ne 11, 3) := by decide +kernel
theorem dX7_greatestDivisor_21 : decode cX7_greatestDivisor 21 = .ok (.iinc 2 (-1), 3) := by decide +kernel
theorem dX7_greatestDivisor_24 : decode cX7_greatestDivisor 24 = .ok (.goto (-22), 3) := by decide +kernel
theorem dX7_greatestDivisor_13 : decode cX7_greatestDivisor 13 = .ok (.iload_n 1, 1) := by decide +kernel
theorem dX7_greatestDivisor_14 : decode cX7_greatestDivisor 14 = .ok (.iload_n 2, 1) := by decide +kernel
theorem dX7_greatestDivisor_15 : decode cX7_greatestDivisor 15 = .ok (.irem, 1) := by decide +kernel
theorem dX7_greatestDivisor_16 : decode cX7_greatestDivisor 16 = .ok (.ifCond .ne 5, 3) := by decide +kernel
theorem dX7_greatestDivisor_19 : decode cX7_greatestDivisor 19 = .ok (.iload_n 2, 1) := by decide +kernel
theorem dX7_greatestDivisor_20 : decode cX7_greatestDivisor 20 = .ok (.ireturn, 1) := by decide +kernel
theorem dX7_odds_0 : decode cX7_odds 0 = .ok (.aload_n 0, 1) := by decide +kernel
theorem dX7_odds_1 : decode cX7_odds 1 = .ok (.iload_n 1, 1) := by decide +kernel
theorem dX7_odds_2 : decode cX7_odds 2 = .ok (.invokevirtual 117, 3) := by decide +kernel
theorem dX7_odds_5 : decode cX7_odds 5 = .ok (.ifCond .eq 22, 3) := by decide +kernel
theorem dX7_odds_8 : decode cX7_odds 8 = .ok (.iload_n 2, 1) := by decide +kernel
theorem dX7_odds_9 : decode cX7_odds 9 = .ok (.iconst 0, 1) := by decide +kernel
theorem dX7_odds_10 : decode cX7_odds 10 = .ok (.bipush 60, 2) := by decide +kernel
theorem dX7_odds_12 : decode cX7_odds 12 = .ok (.invokestatic 60, 3) := by decide +kernel
theorem dX7_odds_15 : decode cX7_odds 15 = .ok (.ifCond .eq 12, 3) := by decide +kernel
theorem dX7_odds_18 : decode cX7_odds 18 = .ok (.iload_n 3, 1) := by decide +kernel
theorem dX7_odds_19 : decode cX7_odds 19 = .ok (.iconst 0, 1) := by decide +kernel
theorem dX7_odds_20 : decode cX7_odds 20 = .ok (.iconst 1, 1) := by decide +kernel
theorem dX7_odds_21 : decode cX7_odds 21 = .ok (.invokestatic 60, 3) := by decide +kernel
theorem dX7_odds_24 : decode cX7_odds 24 = .ok (.ifCond .ne 10, 3) := by decide +kernel
theorem dX7_odds_34 : decode cX7_odds 34 = .ok (.iconst 0, 1) := by decide +kernel
theorem dX7_odds_35 : decode cX7_odds 35 = .ok (.istore 4, 2) := by decide +kernel
theorem dX7_odds_37 : decode cX7_odds 37 = .ok (.iconst 0, 1) := by decide +kernel
theorem dX7_odds_38 : decode cX7_odds 38 = .ok (.istore 5, 2) := by decide +kernel
theorem dX7_odds_40 : decode cX7_odds 40 = .ok (.iload 5, 2) := by decide +kernel
theorem dX7_odds_42 : decode cX7_odds 42 = .ok (.bipush 10, 2) := by decide +kernel
theorem dX7_odds_44 : decode cX7_odds 44 = .ok (.if_icmp .ge 34, 3) := by decide +kernel
theorem dX7_odds_78 : decode cX7_odds 78 = .ok (.iload 4, 2) := by decide +kernel
theorem dX7_odds_80 : decode cX7_odds 80 = .ok (.bipush 10, 2) := by decide +kernel
theorem dX7_odds_82 : decode cX7_odds 82 = .ok (.invokestatic 252, 3) := by decide +kernel
theorem dX7_odds_85 : decode cX7_odds 85 = .ok (.istore 5, 2) := by decide +kernel
theorem dX7_odds_87 : decode cX7_odds 87 = .ok (.iload_n 3, 1) := by decide +kernel
theorem dX7_odds_88 : decode cX7_odds 88 = .ok (.ifCond .ne 11, 3) := by decide +kernel
theorem dX7_odds_99 : decode cX7_odds 99 = .ok (.bipush 10, 2) := by decide +kernel
theorem dX7_odds_101 : decode cX7_odds 101 = .ok (.iload 5, 2) := by decide +kernel
theorem dX7_odds_103 : decode cX7_odds 103 = .ok (.idiv, 1) := by decide +kernel
theorem dX7_odds_104 : decode cX7_odds 104 = .ok (.ireturn, 1) := by decide +kernel
theorem dX7_odds_91 : decode cX7_odds 91 = .ok (.iload 4, 2) := by decide +kernel
theorem dX7_odds_93 : decode cX7_odds 93 = .ok (.iload 5, 2) := by decide +kernel
theorem dX7_odds_95 : decode cX7_odds 95 = .ok (.idiv, 1) := by decide +kernel
theorem dX7_odds_96 : decode cX7_odds 96 = .ok (.goto 8, 3) := by decide +kernel
theorem dX7_odds_47 : decode cX7_odds 47 = .ok (.aload_n 0, 1) := by decide +kernel
theorem dX7_odds_48 : decode cX7_odds 48 = .ok (.invokevirtual 191, 3) := by decide +kernel
theorem dX7_odds_51 : decode cX7_odds 51 = .ok (.aload_n 0, 1) := by decide +kernel
theorem dX7_odds_52 : decode cX7_odds 52 = .ok (.getfield 31, 3) := by decide +kernel
theorem dX7_odds_55 : decode cX7_odds 55 = .ok (.iload 5, 2) := by decide +kernel
theorem dX7_odds_57 : decode cX7_odds 57 = .ok (.putfield 201, 3) := by decide +kernel
theorem dX7_odds_60 : decode cX7_odds 60 = .ok (.aload_n 0, 1) := by decide +kernel
theorem dX7_odds_61 : decode cX7_odds 61 = .ok (.iload_n 1, 1) := by decide +kernel
theorem dX7_odds_62 : decode cX7_odds 62 = .ok (.iload_n 2, 1) := by decide +kernel
theorem dX7_odds_63 : decode cX7_odds 63 = .ok (.invokevirtual 215, 3) := by decide +kernel
theorem dX7_odds_66 : decode cX7_odds 66 = .ok (.ifCond .eq 6, 3) := by decide +kernel
theorem dX7_odds_72 : decode cX7_odds 72 = .ok (.iinc 5 1, 3) := by decide +kernel
theorem dX7_odds_75 : decode cX7_odds 75 = .ok (.goto (-35), 3) := by decide +kernel
theorem dX7_odds_69 : decode cX7_odds 69 = .ok (.iinc 4 1, 3) := by decide +kernel
theorem dX7_odds_27 : decode cX7_odds 27 = .ok (.aload_n 0, 1) := by decide +kernel
theorem dX7_odds_28 : decode cX7_odds 28 = .ok (.ldc 68, 2) := by decide +kernel
theorem dX7_odds_30 : decode cX7_odds 30 = .ok (.invokevirtual 69, 3) := by decide +kernel
theorem dX7_odds_33 : decode cX7_odds 33 = .ok (.ireturn, 1) := by decide +kernel
theorem nI_dec (i : Nat) : nI (i + 1) + Int32.ofInt (-1) = nI i := by rw [← nI_1 i, Int32.add_assoc]; exact Int32.add_zero _
set_option maxRecDepth 100000 in
set_option maxHeartbeats 4000000 in
theorem g_X7_sharp (l : Launch) (D : va_G) (y : wY) (ad : Nat → Nat) (M : Mem) (n : Nat) (hn : n ≤ 9) (hm : M 12 3 = nI n) (hB : ∀ q, q < 9 → BoolOK (M (14 + q) 6)) (z2 z7 : Nat) (hT2 : TextOK M 2 z2) (hT7 : TextOK M 7 z7) (q nn : Int32) : MI l D y ad yX7_sharp (Cond.code yX7_sharp cX7_sharp 4 (some .int)) 9 M [.ref (ad 0), .int q, .int nn] (fun _ M' => sm (fun b _ => b == 6 || b == 11 || b == 78 || (decide (49 ≤ b) && decide (b ≤ 59))) M M') := by
  refine MI_of (by decide) (Nat.le_of_ble_eq_true rfl) ?_
  intro p e s m args below meth c X hr hlocks
  refine j_lv (lv1 := [(0, .ref (ad 0)), (1, .int q), (2, .int nn)]) [0, 1, 2] rfl ?_
  refine j_aload_n X 0 rfl rfl dX7_sharp_0 ?_
  refine j_iload_n X 1 rfl rfl dX7_sharp_1 ?_
  refine j_callVI X (nn := 1) (As := [.int q]) (st := []) (ci := 7) (by decide) (wE_7 _ rfl) rfl aw_191 aw_192 (g_isQuarrel l D y ad M n (by omega) hm q) aw_190 aw_193 aw_2 (by decide +kernel) ⟨by decide, by decide⟩ rfl (Nat.le_of_ble_eq_true rfl) ⟨by decide, by decide⟩ dX7_sharp_2 ?_
  rintro r_ M1_ (⟨rfl, rfl, h_1⟩ | ⟨rfl, rfl⟩)
  · refine j_if_eq X 18 (by decide) dX7_sharp_5 (fun c_2 => False.elim (by revert c_2; decide)) (fun c_2 => ?_)
    refine j_iload_n X 2 rfl rfl dX7_sharp_8 ?_
    refine j_iconst X (v := 1) (by decide) dX7_sharp_9 ?_
    refine j_bipush X (v := 60) (by decide) dX7_sharp_10 ?_
    refine j_callSI X (nn := 3) (As := [.int nn, .int 1, .int 60]) (st := []) aw_110 (g_X7_isWithin l D y ad M nn 1 60 1 60 (by decide) (by decide)) aw_109 aw_111 aw_2 (by decide +kernel) ⟨by decide, by decide⟩ rfl (Nat.le_of_ble_eq_true rfl) ⟨by decide, by decide⟩ dX7_sharp_12 ?_
    rintro r_ M1_ (⟨rfl, rfl, h_3⟩ | ⟨rfl, rfl, h_3⟩)
    · refine j_if_ne X 25 (by decide) dX7_sharp_15 (fun c_4 => ?_) (fun c_4 => False.elim (by revert c_4; decide))
      obtain ⟨Q, hQ, rfl⟩ := nI_oft (x := q) (n := 8) (by omega) (by omega) (by decide)
      have eQ := nI_toInt (n := Q) (by omega)
      have lQ : Q < n := by omega
      obtain ⟨N, hN, rfl⟩ := nI_oft (x := nn) (n := 60) (by omega) (by omega) (by decide)
      refine j_iconst X (v := 0) (by decide) dX7_sharp_25 ?_
      refine j_istore_n X [(3, .int 0), (0, .ref (ad 0)), (1, .int (nI Q)), (2, .int (nI N))] rfl (by decide) rfl dX7_sharp_26 ?_
      have loop5 : ∀ (n_5 i_5 : Nat) (M5 : Mem), i_5 ≤ 100 → 100 - i_5 < n_5 → sm (fun b _ => b == 6 || b == 11 || b == 78 || (decide (49 ≤ b) && decide (b ≤ 59))) M M5 → J p l e (rmN 9) s m args below meth c 0 0 (QI (fun _ M' => sm (fun b _ => b == 6 || b == 11 || b == 78 || (decide (49 ≤ b) && decide (b ≤ 59))) M M') D y ad M s args below) D y ad (va_A (PL y ad M) s.heap.size) 4 M5 27 [(3, .int (nI i_5)), (0, .ref (ad 0)), (1, .int (nI Q)), (2, .int (nI N))] [] := by
        intro n_5
        induction n_5 with
        | zero => intro i_5 M5 h1 h2; exact absurd h2 (by omega)
        | succ n_5 ih5 =>
          intro i_5 M5 h1i_5 h2i_5 hs5
          refine j_iload_n X 0 rfl rfl dX7_sharp_27 ?_
          refine j_bipush X (v := 99) (by decide) dX7_sharp_28 ?_
          refine j_icmp_gt X 67 (by decide) dX7_sharp_30 (fun c_6 => ?_) (fun c_6 => ?_)
          · refine j_aload_n X 1 rfl rfl dX7_sharp_67 ?_
            refine j_ldc X (v := (-1000000002)) aw_560 dX7_sharp_68 ?_
            refine j_callVI X (nn := 1) (As := [.int (-1000000002)]) (st := []) (ci := 7) (by decide) (wE_7 _ rfl) rfl aw_117 aw_118 (g_refuse l D y ad M5 (-1000000002) 2 (by decide) (by decide)) aw_116 aw_119 aw_2 (by decide +kernel) ⟨by decide, by decide⟩ rfl (Nat.le_of_ble_eq_true rfl) ⟨by decide, by decide⟩ dX7_sharp_70 ?_
            rintro r_ M_8 ⟨rfl, s_7⟩
            exact j_iret X hr hlocks dX7_sharp_73 (sm_tr (sm_tr sm_rf (sm_w hs5 (by intro b k hb; first | rfl | exact hb | (simp only [Bool.or_eq_false_iff, Bool.and_eq_false_iff, beq_eq_false_iff_ne, ne_eq, decide_eq_false_iff_not] at hb ⊢; omega)))) (sm_w s_7 (by intro b k hb; first | rfl | exact hb | (simp only [Bool.or_eq_false_iff, Bool.and_eq_false_iff, beq_eq_false_iff_ne, ne_eq, decide_eq_false_iff_not] at hb ⊢; omega))))
          · have c_6 : i_5 < 100 := by
              rcases Nat.lt_or_ge i_5 (100) with g | g
              · exact g
              · exact absurd (show nI 99 < nI i_5 from nI_lt (by omega) (by omega)) c_6
            refine j_aload_n X 1 rfl rfl dX7_sharp_33 ?_
            refine j_callVV X (nn := 0) (As := []) (st := []) (ci := 7) (by decide) (wE_7 _ rfl) rfl aw_534 aw_535 (g_think l D y ad M5 n (by omega) ((hs5 12 3 rfl).trans hm) (bool_keep (P := (fun b _ => b == 6 || b == 11 || b == 78 || (decide (49 ≤ b) && decide (b ≤ 59)))) (sm_tr sm_rf (sm_w hs5 (by intro b k hb; first | rfl | exact hb | (simp only [Bool.or_eq_false_iff, Bool.and_eq_false_iff, beq_eq_false_iff_ne, ne_eq, decide_eq_false_iff_not] at hb ⊢; omega)))) (fun q hq => by first | rfl | (simp; done) | (simp; omega)) hB)) aw_533 aw_536 aw_2 (by decide +kernel) ⟨by decide, by decide⟩ rfl (Nat.le_of_ble_eq_true rfl) ⟨by decide, by decide⟩ dX7_sharp_34 ?_
            rintro M_10 ⟨s_9, s_9_g, s_9_b⟩
            refine j_aload_n X 1 rfl rfl dX7_sharp_37 ?_
            refine j_get X (by decide) (wE_7 _ rfl) rfl awF7 2 (by decide) aw_21 rfl (v := .ref (ad 49)) rfl dX7_sharp_38 ?_
            refine j_getN X (by decide) (wE_0 _ rfl) rfl awF0 2 (by decide) (List.mem_of_getElem? (i := 14) rfl) rfl (v := .ref (ad 50)) rfl dX7_sharp_41 ?_
            refine j_iload_n X 2 rfl rfl dX7_sharp_44 ?_
            refine j_aald10 X (by decide) rfl (show vp_in (nI Q) 9 from vp_in_nI (by omega) (by decide)) dX7_sharp_45 ?_
            refine j_eqr (v := 51 + Q) (by rw [nI_clamp (by omega)]; exact rf_one49 (by omega)) ?_
            refine j_iload_n X 0 rfl rfl dX7_sharp_46 ?_
            refine j_putN X (up M_10 (51 + Q) 3 (nI i_5)) up_o (by omega) (wE_1 _ (kd_one49 (by omega))) rfl awF1 3 (by decide) (wP_1_3 _ _ (kd_one49 (by omega))) tyX1 tyX1_ok nmX1 rfl (ty := .int) (by decide +kernel) rfl rfl (Nat.le_of_ble_eq_true rfl) (List.mem_of_getElem? (i := 6) rfl) rfl dX7_sharp_47 ?_
            refine j_aload_n X 1 rfl rfl dX7_sharp_50 ?_
            refine j_iload_n X 2 rfl rfl dX7_sharp_51 ?_
            refine j_iload_n X 3 rfl rfl dX7_sharp_52 ?_
            refine j_callVI X (nn := 2) (As := [.int (nI Q), .int (nI N)]) (st := []) (ci := 7) (by decide) (wE_7 _ rfl) rfl aw_610 aw_611 (g_endsInThought l D y ad (up M_10 (51 + Q) 3 (nI i_5)) n (by omega) ((up_cell (by omega)).trans ((s_9_g 3 (by decide) (by decide)).trans ((hs5 12 3 rfl).trans hm))) z2 z7 (TextOK_keep (P := (fun b _ => b == 6 || b == 11 || b == 78 || (decide (49 ≤ b) && decide (b ≤ 59)))) (sm_up (sm_tr (sm_tr sm_rf (sm_w hs5 (by intro b k hb; first | rfl | exact hb | (simp only [Bool.or_eq_false_iff, Bool.and_eq_false_iff, beq_eq_false_iff_ne, ne_eq, decide_eq_false_iff_not] at hb ⊢; omega)))) (sm_w s_9 (by intro b k hb; first | rfl | exact hb | (simp only [Bool.or_eq_false_iff, Bool.and_eq_false_iff, beq_eq_false_iff_ne, ne_eq, decide_eq_false_iff_not] at hb ⊢; omega)))) (by first | rfl | (simp; done) | (simp; omega) | (simp only [Bool.and_eq_true, Bool.or_eq_true, decide_eq_true_eq, beq_iff_eq]; omega))) (fun _ => rfl) (fun _ => rfl) (fun _ => rfl) (fun _ => rfl) hT2) (TextOK_keep (P := (fun b _ => b == 6 || b == 11 || b == 78 || (decide (49 ≤ b) && decide (b ≤ 59)))) (sm_up (sm_tr (sm_tr sm_rf (sm_w hs5 (by intro b k hb; first | rfl | exact hb | (simp only [Bool.or_eq_false_iff, Bool.and_eq_false_iff, beq_eq_false_iff_ne, ne_eq, decide_eq_false_iff_not] at hb ⊢; omega)))) (sm_w s_9 (by intro b k hb; first | rfl | exact hb | (simp only [Bool.or_eq_false_iff, Bool.and_eq_false_iff, beq_eq_false_iff_ne, ne_eq, decide_eq_false_iff_not] at hb ⊢; omega)))) (by first | rfl | (simp; done) | (simp; omega) | (simp only [Bool.and_eq_true, Bool.or_eq_true, decide_eq_true_eq, beq_iff_eq]; omega))) (fun _ => rfl) (fun _ => rfl) (fun _ => rfl) (fun _ => rfl) hT7) Q (by omega) N (by omega) (fun q hq => by rw [up_slot _ (by decide)]; exact s_9_b q hq)) aw_609 aw_612 aw_2 (by decide +kernel) ⟨by decide, by decide⟩ rfl (Nat.le_of_ble_eq_true rfl) ⟨by decide, by decide⟩ dX7_sharp_53 ?_
            rintro r_ M_12 (⟨rfl, s_11⟩ | ⟨rfl, s_11⟩)
            · refine j_if_eq X 61 (by decide) dX7_sharp_56 (fun c_13 => ?_) (fun c_13 => False.elim (by revert c_13; decide))
              refine j_iinc X (v := (nI (i_5 + 1))) 0 [(3, .int (nI (i_5 + 1))), (0, .ref (ad 0)), (1, .int (nI Q)), (2, .int (nI N))] rfl (show nI i_5 + Int32.ofInt 1 = _ from nI_1 i_5) (by decide) rfl dX7_sharp_61 ?_
              refine j_goto X 27 (by decide) dX7_sharp_64 ?_
              refine j_lv (lv1 := [(3, .int (nI (i_5 + 1))), (0, .ref (ad 0)), (1, .int (nI Q)), (2, .int (nI N))]) [0, 1, 2, 3] rfl ?_
              exact ih5 (i_5 + 1) _ (by omega) (by omega) (sm_tr (sm_up (sm_tr hs5 (sm_w s_9 (by intro b k hb; first | rfl | exact hb | (simp only [Bool.or_eq_false_iff, Bool.and_eq_false_iff, beq_eq_false_iff_ne, ne_eq, decide_eq_false_iff_not] at hb ⊢; omega)))) (by first | rfl | (simp; done) | (simp; omega) | (simp only [Bool.and_eq_true, Bool.or_eq_true, decide_eq_true_eq, beq_iff_eq]; omega))) (sm_w s_11 (by intro b k hb; first | rfl | exact hb | (simp only [Bool.or_eq_false_iff, Bool.and_eq_false_iff, beq_eq_false_iff_ne, ne_eq, decide_eq_false_iff_not] at hb ⊢; omega))))
            · refine j_if_eq X 61 (by decide) dX7_sharp_56 (fun c_14 => False.elim (by revert c_14; decide)) (fun c_14 => ?_)
              refine j_iload_n X 0 rfl rfl dX7_sharp_59 ?_
              exact j_iret X hr hlocks dX7_sharp_60 (sm_tr (sm_up (sm_tr (sm_tr sm_rf (sm_w hs5 (by intro b k hb; first | rfl | exact hb | (simp only [Bool.or_eq_false_iff, Bool.and_eq_false_iff, beq_eq_false_iff_ne, ne_eq, decide_eq_false_iff_not] at hb ⊢; omega)))) (sm_w s_9 (by intro b k hb; first | rfl | exact hb | (simp only [Bool.or_eq_false_iff, Bool.and_eq_false_iff, beq_eq_false_iff_ne, ne_eq, decide_eq_false_iff_not] at hb ⊢; omega)))) (by first | rfl | (simp; done) | (simp; omega) | (simp only [Bool.and_eq_true, Bool.or_eq_true, decide_eq_true_eq, beq_iff_eq]; omega))) (sm_w s_11 (by intro b k hb; first | rfl | exact hb | (simp only [Bool.or_eq_false_iff, Bool.and_eq_false_iff, beq_eq_false_iff_ne, ne_eq, decide_eq_false_iff_not] at hb ⊢; omega))))
      refine j_lv (lv1 := [(3, .int (nI 0)), (0, .ref (ad 0)), (1, .int (nI Q)), (2, .int (nI N))]) [0, 1, 2, 3] rfl ?_
      exact loop5 (100 + 1) 0 _ (by omega) (by omega) sm_rf
    · refine j_if_ne X 25 (by decide) dX7_sharp_15 (fun c_15 => False.elim (by revert c_15; decide)) (fun c_15 => ?_)
      refine j_aload_n X 0 rfl rfl dX7_sharp_18 ?_
      refine j_ldc X (v := (-1000000001)) aw_108 dX7_sharp_19 ?_
      refine j_callVI X (nn := 1) (As := [.int (-1000000001)]) (st := []) (ci := 7) (by decide) (wE_7 _ rfl) rfl aw_117 aw_118 (g_refuse l D y ad M (-1000000001) 1 (by decide) (by decide)) aw_116 aw_119 aw_2 (by decide +kernel) ⟨by decide, by decide⟩ rfl (Nat.le_of_ble_eq_true rfl) ⟨by decide, by decide⟩ dX7_sharp_21 ?_
      rintro r_ M_17 ⟨rfl, s_16⟩
      exact j_iret X hr hlocks dX7_sharp_24 (sm_tr sm_rf (sm_w s_16 (by intro b k hb; first | rfl | exact hb | (simp only [Bool.or_eq_false_iff, Bool.and_eq_false_iff, beq_eq_false_iff_ne, ne_eq, decide_eq_false_iff_not] at hb ⊢; omega))))
  · refine j_if_eq X 18 (by decide) dX7_sharp_5 (fun c_18 => ?_) (fun c_18 => False.elim (by revert c_18; decide))
    refine j_aload_n X 0 rfl rfl dX7_sharp_18 ?_
    refine j_ldc X (v := (-1000000001)) aw_108 dX7_sharp_19 ?_
    refine j_callVI X (nn := 1) (As := [.int (-1000000001)]) (st := []) (ci := 7) (by decide) (wE_7 _ rfl) rfl aw_117 aw_118 (g_refuse l D y ad M (-1000000001) 1 (by decide) (by decide)) aw_116 aw_119 aw_2 (by decide +kernel) ⟨by decide, by decide⟩ rfl (Nat.le_of_ble_eq_true rfl) ⟨by decide, by decide⟩ dX7_sharp_21 ?_
    rintro r_ M_20 ⟨rfl, s_19⟩
    exact j_iret X hr hlocks dX7_sharp_24 (sm_tr sm_rf (sm_w s_19 (by intro b k hb; first | rfl | exact hb | (simp only [Bool.or_eq_false_iff, Bool.and_eq_false_iff, beq_eq_false_iff_ne, ne_eq, decide_eq_false_iff_not] at hb ⊢; omega))))
theorem nI_nz {k : Nat} (h : 0 < k ∧ k < 2 ^ 30) : ¬ nI k = 0 := fun e => by have := nI_toInt (n := k) (by omega); rw [e] at this; simp at this; omega
set_option maxRecDepth 100000 in
set_option maxHeartbeats 4000000 in
theorem g_greatestDivisor (l : Launch) (D : va_G) (y : wY) (ad : Nat → Nat) (M : Mem) (v : Int32) : MI l D y ad yX7_greatestDivisor (Cond.code yX7_greatestDivisor cX7_greatestDivisor 3 (some .int)) 0 M [.int v, .int 10] (fun r M' => (∃ j, 1 ≤ j ∧ j ≤ 10 ∧ nI j = r) ∧ M = M') := by
  refine MI_of (by decide) (Nat.le_of_ble_eq_true rfl) ?_
  intro p e s m args below meth c X hr hlocks
  refine j_lv (lv1 := [(0, .int v), (1, .int 10)]) [0, 1] rfl ?_
  refine j_iload_n X 1 rfl rfl dX7_greatestDivisor_0 ?_
  refine j_istore_n X [(2, .int 10), (0, .int v), (1, .int 10)] rfl (by decide) rfl dX7_greatestDivisor_1 ?_
  have loop1 : ∀ (i_1 : Nat), i_1 ≤ 10 → J p l e (rmN 0) s m args below meth c 0 0 (QI (fun r M' => (∃ j, 1 ≤ j ∧ j ≤ 10 ∧ nI j = r) ∧ M = M') D y ad M s args below) D y ad (va_A (PL y ad M) s.heap.size) 3 M 2 [(2, .int (nI i_1)), (0, .int v), (1, .int 10)] [] := by
    intro i_1
    induction i_1 with
    | zero =>
      intro  h1i_1
      refine j_lv (lv1 := [(2, .int 0), (0, .int v), (1, .int 10)]) [0, 1, 2] rfl ?_
      refine j_iload_n X 0 rfl rfl dX7_greatestDivisor_2 ?_
      refine j_iconst X (v := 1) (by decide) dX7_greatestDivisor_3 ?_
      refine j_icmp_le X 27 (by decide) dX7_greatestDivisor_4 (fun c_2 => ?_) (fun c_2 => False.elim (by revert c_2; decide))
      refine j_iconst X (v := 1) (by decide) dX7_greatestDivisor_27 ?_
      exact j_iret X hr hlocks dX7_greatestDivisor_28 ⟨⟨1, by decide, by decide, rfl⟩, rfl⟩
    | succ i_1 ih1 =>
      intro  h1i_1
      refine j_iload_n X 0 rfl rfl dX7_greatestDivisor_2 ?_
      refine j_iconst X (v := 1) (by decide) dX7_greatestDivisor_3 ?_
      refine j_icmp_le X 27 (by decide) dX7_greatestDivisor_4 (fun c_3 => ?_) (fun c_3 => ?_)
      · refine j_iconst X (v := 1) (by decide) dX7_greatestDivisor_27 ?_
        exact j_iret X hr hlocks dX7_greatestDivisor_28 ⟨⟨1, by decide, by decide, rfl⟩, rfl⟩
      · refine j_iload_n X 1 rfl rfl dX7_greatestDivisor_7 ?_
        refine j_iload_n X 0 rfl rfl dX7_greatestDivisor_8 ?_
        refine j_irem X (nI_nz (k := (i_1 + 1)) (by omega)) dX7_greatestDivisor_9 ?_
        refine j_if_ne X 21 (by decide) dX7_greatestDivisor_10 (fun c_4 => ?_) (fun c_4 => ?_)
        · refine j_iinc X (v := (nI i_1)) 0 [(2, .int (nI i_1)), (0, .int v), (1, .int 10)] rfl (nI_dec i_1) (by decide) rfl dX7_greatestDivisor_21 ?_
          refine j_goto X 2 (by decide) dX7_greatestDivisor_24 ?_
          refine j_lv (lv1 := [(2, .int (nI i_1)), (0, .int v), (1, .int 10)]) [0, 1, 2] rfl ?_
          exact ih1 (by omega)
        · refine j_iload_n X 2 rfl rfl dX7_greatestDivisor_13 ?_
          refine j_iload_n X 0 rfl rfl dX7_greatestDivisor_14 ?_
          refine j_irem X (nI_nz (k := (i_1 + 1)) (by omega)) dX7_greatestDivisor_15 ?_
          refine j_if_ne X 21 (by decide) dX7_greatestDivisor_16 (fun c_5 => ?_) (fun c_5 => ?_)
          · refine j_iinc X (v := (nI i_1)) 0 [(2, .int (nI i_1)), (0, .int v), (1, .int 10)] rfl (nI_dec i_1) (by decide) rfl dX7_greatestDivisor_21 ?_
            refine j_goto X 2 (by decide) dX7_greatestDivisor_24 ?_
            refine j_lv (lv1 := [(2, .int (nI i_1)), (0, .int v), (1, .int 10)]) [0, 1, 2] rfl ?_
            exact ih1 (by omega)
          · refine j_iload_n X 0 rfl rfl dX7_greatestDivisor_19 ?_
            exact j_iret X hr hlocks dX7_greatestDivisor_20 ⟨⟨i_1 + 1, by omega, by omega, rfl⟩, rfl⟩
  refine j_lv (lv1 := [(2, .int (nI 10)), (0, .int v), (1, .int 10)]) [0, 1, 2] rfl ?_
  exact loop1 10 (by omega)
set_option maxRecDepth 100000 in
set_option maxHeartbeats 4000000 in
theorem g_X7_odds (l : Launch) (D : va_G) (y : wY) (ad : Nat → Nat) (M : Mem) (n : Nat) (hn : n ≤ 9) (hm : M 12 3 = nI n) (hB : ∀ q, q < 9 → BoolOK (M (14 + q) 6)) (z2 z7 : Nat) (hT2 : TextOK M 2 z2) (hT7 : TextOK M 7 z7) (q nn pt : Int32) : MI l D y ad yX7_odds (Cond.code yX7_odds cX7_odds 6 (some .int)) 9 M [.ref (ad 0), .int q, .int nn, .int pt] (fun _ M' => sm (fun b _ => b == 6 || b == 11 || b == 78 || (decide (49 ≤ b) && decide (b ≤ 59))) M M') := by
  refine MI_of (by decide) (Nat.le_of_ble_eq_true rfl) ?_
  intro p e s m args below meth c X hr hlocks
  refine j_lv (lv1 := [(0, .ref (ad 0)), (1, .int q), (2, .int nn), (3, .int pt)]) [0, 1, 2, 3] rfl ?_
  refine j_aload_n X 0 rfl rfl dX7_odds_0 ?_
  refine j_iload_n X 1 rfl rfl dX7_odds_1 ?_
  refine j_callVI X (nn := 1) (As := [.int q]) (st := []) (ci := 7) (by decide) (wE_7 _ rfl) rfl aw_191 aw_192 (g_isQuarrel l D y ad M n (by omega) hm q) aw_190 aw_193 aw_2 (by decide +kernel) ⟨by decide, by decide⟩ rfl (Nat.le_of_ble_eq_true rfl) ⟨by decide, by decide⟩ dX7_odds_2 ?_
  rintro r_ M1_ (⟨rfl, rfl, h_1⟩ | ⟨rfl, rfl⟩)
  · refine j_if_eq X 27 (by decide) dX7_odds_5 (fun c_2 => False.elim (by revert c_2; decide)) (fun c_2 => ?_)
    refine j_iload_n X 2 rfl rfl dX7_odds_8 ?_
    refine j_iconst X (v := 0) (by decide) dX7_odds_9 ?_
    refine j_bipush X (v := 60) (by decide) dX7_odds_10 ?_
    refine j_callSI X (nn := 3) (As := [.int nn, .int 0, .int 60]) (st := []) aw_110 (g_X7_isWithin l D y ad M nn 0 60 0 60 (by decide) (by decide)) aw_109 aw_111 aw_2 (by decide +kernel) ⟨by decide, by decide⟩ rfl (Nat.le_of_ble_eq_true rfl) ⟨by decide, by decide⟩ dX7_odds_12 ?_
    rintro r_ M1_ (⟨rfl, rfl, h_3⟩ | ⟨rfl, rfl, h_3⟩)
    · refine j_if_eq X 27 (by decide) dX7_odds_15 (fun c_4 => False.elim (by revert c_4; decide)) (fun c_4 => ?_)
      refine j_iload_n X 3 rfl rfl dX7_odds_18 ?_
      refine j_iconst X (v := 0) (by decide) dX7_odds_19 ?_
      refine j_iconst X (v := 1) (by decide) dX7_odds_20 ?_
      refine j_callSI X (nn := 3) (As := [.int pt, .int 0, .int 1]) (st := []) aw_110 (g_X7_isWithin l D y ad M pt 0 1 0 1 (by decide) (by decide)) aw_109 aw_111 aw_2 (by decide +kernel) ⟨by decide, by decide⟩ rfl (Nat.le_of_ble_eq_true rfl) ⟨by decide, by decide⟩ dX7_odds_21 ?_
      rintro r_ M1_ (⟨rfl, rfl, h_5⟩ | ⟨rfl, rfl, h_5⟩)
      · refine j_if_ne X 34 (by decide) dX7_odds_24 (fun c_6 => ?_) (fun c_6 => False.elim (by revert c_6; decide))
        obtain ⟨Q, hQ, rfl⟩ := nI_oft (x := q) (n := 8) (by omega) (by omega) (by decide)
        have eQ := nI_toInt (n := Q) (by omega)
        have lQ : Q < n := by omega
        obtain ⟨N, hN, rfl⟩ := nI_oft (x := nn) (n := 60) (by omega) (by omega) (by decide)
        refine j_iconst X (v := 0) (by decide) dX7_odds_34 ?_
        refine j_istore X [(4, .int 0), (0, .ref (ad 0)), (1, .int (nI Q)), (2, .int (nI N)), (3, .int pt)] (by decide) rfl dX7_odds_35 ?_
        refine j_iconst X (v := 0) (by decide) dX7_odds_37 ?_
        refine j_istore X [(5, .int 0), (4, .int 0), (0, .ref (ad 0)), (1, .int (nI Q)), (2, .int (nI N)), (3, .int pt)] (by decide) rfl dX7_odds_38 ?_
        have loop7 : ∀ (n_7 i_7 : Nat) (M7 : Mem) (v4_i_7 : Int32), i_7 ≤ 10 → 10 - i_7 < n_7 → sm (fun b _ => b == 6 || b == 11 || b == 78 || (decide (49 ≤ b) && decide (b ≤ 59))) M M7 → J p l e (rmN 9) s m args below meth c 0 0 (QI (fun _ M' => sm (fun b _ => b == 6 || b == 11 || b == 78 || (decide (49 ≤ b) && decide (b ≤ 59))) M M') D y ad M s args below) D y ad (va_A (PL y ad M) s.heap.size) 6 M7 40 [(5, .int (nI i_7)), (0, .ref (ad 0)), (1, .int (nI Q)), (2, .int (nI N)), (3, .int pt), (4, .int v4_i_7)] [] := by
          intro n_7
          induction n_7 with
          | zero => intro i_7 M7 v4_i_7 h1 h2; exact absurd h2 (by omega)
          | succ n_7 ih7 =>
            intro i_7 M7 v4_i_7 h1i_7 h2i_7 hs7
            refine j_iload X 0 rfl dX7_odds_40 ?_
            refine j_bipush X (v := 10) (by decide) dX7_odds_42 ?_
            refine j_icmp_ge X 78 (by decide) dX7_odds_44 (fun c_8 => ?_) (fun c_8 => ?_)
            · have c_8 := (nI_leI (by omega) (by omega)).mp (show nI (10) ≤ nI i_7 from c_8)
              refine j_iload X 5 rfl dX7_odds_78 ?_
              refine j_bipush X (v := 10) (by decide) dX7_odds_80 ?_
              refine j_callSI X (nn := 2) (As := [.int v4_i_7, .int 10]) (st := []) aw_721 (g_greatestDivisor l D y ad M7 v4_i_7) aw_720 aw_722 aw_2 (by decide +kernel) ⟨by decide, by decide⟩ rfl (Nat.le_of_ble_eq_true rfl) ⟨by decide, by decide⟩ dX7_odds_82 ?_
              rintro r_ M1_ ⟨⟨j_9, j_9_a, j_9_b, rfl⟩, rfl⟩
              refine j_istore X [(5, .int (nI j_9)), (0, .ref (ad 0)), (1, .int (nI Q)), (2, .int (nI N)), (3, .int pt), (4, .int v4_i_7)] (by decide) rfl dX7_odds_85 ?_
              refine j_iload_n X 4 rfl rfl dX7_odds_87 ?_
              refine j_if_ne X 99 (by decide) dX7_odds_88 (fun c_10 => ?_) (fun c_10 => ?_)
              · have qc_10 := ti_ne (n := 0) (by decide) c_10
                refine j_bipush X (v := 10) (by decide) dX7_odds_99 ?_
                refine j_iload X 0 rfl dX7_odds_101 ?_
                refine j_idiv X (nI_nz (k := j_9) (by omega)) dX7_odds_103 ?_
                exact j_iret X hr hlocks dX7_odds_104 (sm_tr sm_rf (sm_w hs7 (by intro b k hb; first | rfl | exact hb | (simp only [Bool.or_eq_false_iff, Bool.and_eq_false_iff, beq_eq_false_iff_ne, ne_eq, decide_eq_false_iff_not] at hb ⊢; omega))))
              · have qc_10 := ti_eq (n := 0) (by decide) c_10
                refine j_iload X 5 rfl dX7_odds_91 ?_
                refine j_iload X 0 rfl dX7_odds_93 ?_
                refine j_idiv X (nI_nz (k := j_9) (by omega)) dX7_odds_95 ?_
                refine j_goto X 104 (by decide) dX7_odds_96 ?_
                exact j_iret X hr hlocks dX7_odds_104 (sm_tr sm_rf (sm_w hs7 (by intro b k hb; first | rfl | exact hb | (simp only [Bool.or_eq_false_iff, Bool.and_eq_false_iff, beq_eq_false_iff_ne, ne_eq, decide_eq_false_iff_not] at hb ⊢; omega))))
            · have c_8 : i_7 < 10 := by
                rcases Nat.lt_or_ge i_7 (10) with g | g
                · exact g
                · exact absurd (show nI (10) ≤ nI i_7 from nI_le g (by omega)) c_8
              refine j_aload_n X 1 rfl rfl dX7_odds_47 ?_
              refine j_callVV X (nn := 0) (As := []) (st := []) (ci := 7) (by decide) (wE_7 _ rfl) rfl aw_534 aw_535 (g_think l D y ad M7 n (by omega) ((hs7 12 3 rfl).trans hm) (bool_keep (P := (fun b _ => b == 6 || b == 11 || b == 78 || (decide (49 ≤ b) && decide (b ≤ 59)))) (sm_tr sm_rf (sm_w hs7 (by intro b k hb; first | rfl | exact hb | (simp only [Bool.or_eq_false_iff, Bool.and_eq_false_iff, beq_eq_false_iff_ne, ne_eq, decide_eq_false_iff_not] at hb ⊢; omega)))) (fun q hq => by first | rfl | (simp; done) | (simp; omega)) hB)) aw_533 aw_536 aw_2 (by decide +kernel) ⟨by decide, by decide⟩ rfl (Nat.le_of_ble_eq_true rfl) ⟨by decide, by decide⟩ dX7_odds_48 ?_
              rintro M_12 ⟨s_11, s_11_g, s_11_b⟩
              refine j_aload_n X 1 rfl rfl dX7_odds_51 ?_
              refine j_get X (by decide) (wE_7 _ rfl) rfl awF7 2 (by decide) aw_21 rfl (v := .ref (ad 49)) rfl dX7_odds_52 ?_
              refine j_iload X 0 rfl dX7_odds_55 ?_
              refine j_putN X (up M_12 49 4 (nI i_7)) up_o (by decide) (wE_0 _ rfl) rfl awF0 4 (by decide) (wP_0_4 _ _ rfl) tyX0 tyX0_ok nmX0 rfl (ty := .int) (by decide +kernel) rfl rfl (Nat.le_of_ble_eq_true rfl) (List.mem_of_getElem? (i := 16) rfl) rfl dX7_odds_57 ?_
              refine j_aload_n X 1 rfl rfl dX7_odds_60 ?_
              refine j_iload_n X 2 rfl rfl dX7_odds_61 ?_
              refine j_iload_n X 3 rfl rfl dX7_odds_62 ?_
              refine j_callVI X (nn := 2) (As := [.int (nI Q), .int (nI N)]) (st := []) (ci := 7) (by decide) (wE_7 _ rfl) rfl aw_610 aw_611 (g_endsInThought l D y ad (up M_12 49 4 (nI i_7)) n (by omega) ((up_slot _ (by decide)).trans ((s_11_g 3 (by decide) (by decide)).trans ((hs7 12 3 rfl).trans hm))) z2 z7 (TextOK_keep (P := (fun b _ => b == 6 || b == 11 || b == 78 || (decide (49 ≤ b) && decide (b ≤ 59)))) (sm_up (sm_tr (sm_tr sm_rf (sm_w hs7 (by intro b k hb; first | rfl | exact hb | (simp only [Bool.or_eq_false_iff, Bool.and_eq_false_iff, beq_eq_false_iff_ne, ne_eq, decide_eq_false_iff_not] at hb ⊢; omega)))) (sm_w s_11 (by intro b k hb; first | rfl | exact hb | (simp only [Bool.or_eq_false_iff, Bool.and_eq_false_iff, beq_eq_false_iff_ne, ne_eq, decide_eq_false_iff_not] at hb ⊢; omega)))) rfl) (fun _ => rfl) (fun _ => rfl) (fun _ => rfl) (fun _ => rfl) hT2) (TextOK_keep (P := (fun b _ => b == 6 || b == 11 || b == 78 || (decide (49 ≤ b) && decide (b ≤ 59)))) (sm_up (sm_tr (sm_tr sm_rf (sm_w hs7 (by intro b k hb; first | rfl | exact hb | (simp only [Bool.or_eq_false_iff, Bool.and_eq_false_iff, beq_eq_false_iff_ne, ne_eq, decide_eq_false_iff_not] at hb ⊢; omega)))) (sm_w s_11 (by intro b k hb; first | rfl | exact hb | (simp only [Bool.or_eq_false_iff, Bool.and_eq_false_iff, beq_eq_false_iff_ne, ne_eq, decide_eq_false_iff_not] at hb ⊢; omega)))) rfl) (fun _ => rfl) (fun _ => rfl) (fun _ => rfl) (fun _ => rfl) hT7) Q (by omega) N (by omega) (fun q hq => by rw [up_slot _ (by decide)]; exact s_11_b q hq)) aw_609 aw_612 aw_2 (by decide +kernel) ⟨by decide, by decide⟩ rfl (Nat.le_of_ble_eq_true rfl) ⟨by decide, by decide⟩ dX7_odds_63 ?_
              rintro r_ M_14 (⟨rfl, s_13⟩ | ⟨rfl, s_13⟩)
              · refine j_if_eq X 72 (by decide) dX7_odds_66 (fun c_15 => ?_) (fun c_15 => False.elim (by revert c_15; decide))
                refine j_iinc X (v := (nI (i_7 + 1))) 0 [(5, .int (nI (i_7 + 1))), (0, .ref (ad 0)), (1, .int (nI Q)), (2, .int (nI N)), (3, .int pt), (4, .int v4_i_7)] rfl (show nI i_7 + Int32.ofInt 1 = _ from nI_1 i_7) (by decide) rfl dX7_odds_72 ?_
                refine j_goto X 40 (by decide) dX7_odds_75 ?_
                refine j_lv (lv1 := [(5, .int (nI (i_7 + 1))), (0, .ref (ad 0)), (1, .int (nI Q)), (2, .int (nI N)), (3, .int pt), (4, .int v4_i_7)]) [0, 1, 2, 3, 4, 5] rfl ?_
                exact ih7 (i_7 + 1) _ _ (by omega) (by omega) (sm_tr (sm_up (sm_tr hs7 (sm_w s_11 (by intro b k hb; first | rfl | exact hb | (simp only [Bool.or_eq_false_iff, Bool.and_eq_false_iff, beq_eq_false_iff_ne, ne_eq, decide_eq_false_iff_not] at hb ⊢; omega)))) rfl) (sm_w s_13 (by intro b k hb; first | rfl | exact hb | (simp only [Bool.or_eq_false_iff, Bool.and_eq_false_iff, beq_eq_false_iff_ne, ne_eq, decide_eq_false_iff_not] at hb ⊢; omega))))
              · refine j_if_eq X 72 (by decide) dX7_odds_66 (fun c_16 => False.elim (by revert c_16; decide)) (fun c_16 => ?_)
                refine j_iinc X (v := v4_i_7 + 1) 5 [(4, .int (v4_i_7 + 1)), (5, .int (nI i_7)), (0, .ref (ad 0)), (1, .int (nI Q)), (2, .int (nI N)), (3, .int pt)] rfl rfl (by decide) rfl dX7_odds_69 ?_
                refine j_iinc X (v := (nI (i_7 + 1))) 1 [(5, .int (nI (i_7 + 1))), (4, .int (v4_i_7 + 1)), (0, .ref (ad 0)), (1, .int (nI Q)), (2, .int (nI N)), (3, .int pt)] rfl (show nI i_7 + Int32.ofInt 1 = _ from nI_1 i_7) (by decide) rfl dX7_odds_72 ?_
                refine j_goto X 40 (by decide) dX7_odds_75 ?_
                refine j_lv (lv1 := [(5, .int (nI (i_7 + 1))), (0, .ref (ad 0)), (1, .int (nI Q)), (2, .int (nI N)), (3, .int pt), (4, .int (v4_i_7 + 1))]) [0, 2, 3, 4, 5, 1] rfl ?_
                exact ih7 (i_7 + 1) _ _ (by omega) (by omega) (sm_tr (sm_up (sm_tr hs7 (sm_w s_11 (by intro b k hb; first | rfl | exact hb | (simp only [Bool.or_eq_false_iff, Bool.and_eq_false_iff, beq_eq_false_iff_ne, ne_eq, decide_eq_false_iff_not] at hb ⊢; omega)))) rfl) (sm_w s_13 (by intro b k hb; first | rfl | exact hb | (simp only [Bool.or_eq_false_iff, Bool.and_eq_false_iff, beq_eq_false_iff_ne, ne_eq, decide_eq_false_iff_not] at hb ⊢; omega))))
        refine j_lv (lv1 := [(5, .int (nI 0)), (0, .ref (ad 0)), (1, .int (nI Q)), (2, .int (nI N)), (3, .int pt), (4, .int 0)]) [0, 2, 3, 4, 5, 1] rfl ?_
        exact loop7 (10 + 1) 0 _ _ (by omega) (by omega) sm_rf
      · refine j_if_ne X 34 (by decide) dX7_odds_24 (fun c_17 => False.elim (by revert c_17; decide)) (fun c_17 => ?_)
        refine j_aload_n X 0 rfl rfl dX7_odds_27 ?_
        refine j_ldc X (v := (-1000000001)) aw_108 dX7_odds_28 ?_
        refine j_callVI X (nn := 1) (As := [.int (-1000000001)]) (st := []) (ci := 7) (by decide) (wE_7 _ rfl) rfl aw_117 aw_118 (g_refuse l D y ad M (-1000000001) 1 (by decide) (by decide)) aw_116 aw_119 aw_2 (by decide +kernel) ⟨by decide, by decide⟩ rfl (Nat.le_of_ble_eq_true rfl) ⟨by decide, by decide⟩ dX7_odds_30 ?_
        rintro r_ M_19 ⟨rfl, s_18⟩
        exact j_iret X hr hlocks dX7_odds_33 (sm_tr sm_rf (sm_w s_18 (by intro b k hb; first | rfl | exact hb | (simp only [Bool.or_eq_false_iff, Bool.and_eq_false_iff, beq_eq_false_iff_ne, ne_eq, decide_eq_false_iff_not] at hb ⊢; omega))))
    · refine j_if_eq X 27 (by decide) dX7_odds_15 (fun c_20 => ?_) (fun c_20 => False.elim (by revert c_20; decide))
      refine j_aload_n X 0 rfl rfl dX7_odds_27 ?_
      refine j_ldc X (v := (-1000000001)) aw_108 dX7_odds_28 ?_
      refine j_callVI X (nn := 1) (As := [.int (-1000000001)]) (st := []) (ci := 7) (by decide) (wE_7 _ rfl) rfl aw_117 aw_118 (g_refuse l D y ad M (-1000000001) 1 (by decide) (by decide)) aw_116 aw_119 aw_2 (by decide +kernel) ⟨by decide, by decide⟩ rfl (Nat.le_of_ble_eq_true rfl) ⟨by decide, by decide⟩ dX7_odds_30 ?_
      rintro r_ M_22 ⟨rfl, s_21⟩
      exact j_iret X hr hlocks dX7_odds_33 (sm_tr sm_rf (sm_w s_21 (by intro b k hb; first | rfl | exact hb | (simp only [Bool.or_eq_false_iff, Bool.and_eq_false_iff, beq_eq_false_iff_ne, ne_eq, decide_eq_false_iff_not] at hb ⊢; omega))))
  · refine j_if_eq X 27 (by decide) dX7_odds_5 (fun c_23 => ?_) (fun c_23 => False.elim (by revert c_23; decide))
    refine j_aload_n X 0 rfl rfl dX7_odds_27 ?_
    refine j_ldc X (v := (-1000000001)) aw_108 dX7_odds_28 ?_
    refine j_callVI X (nn := 1) (As := [.int (-1000000001)]) (st := []) (ci := 7) (by decide) (wE_7 _ rfl) rfl aw_117 aw_118 (g_refuse l D y ad M (-1000000001) 1 (by decide) (by decide)) aw_116 aw_119 aw_2 (by decide +kernel) ⟨by decide, by decide⟩ rfl (Nat.le_of_ble_eq_true rfl) ⟨by decide, by decide⟩ dX7_odds_30 ?_
    rintro r_ M_25 ⟨rfl, s_24⟩
    exact j_iret X hr hlocks dX7_odds_33 (sm_tr sm_rf (sm_w s_24 (by intro b k hb; first | rfl | exact hb | (simp only [Bool.or_eq_false_iff, Bool.and_eq_false_iff, beq_eq_false_iff_ne, ne_eq, decide_eq_false_iff_not] at hb ⊢; omega))))
