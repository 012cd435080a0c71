theorem dX7_ended_0 : decode cX7_ended 0 = .ok (.iload_n 1, 1) := by decide +kernel
theorem dX7_ended_1 : decode cX7_ended 1 = .ok (.iconst 0, 1) := by decide +kernel
theorem dX7_ended_2 : decode cX7_ended 2 = .ok (.bipush 60, 2) := by decide +kernel
theorem dX7_ended_4 : decode cX7_ended 4 = .ok (.invokestatic 60, 3) := by decide +kernel
theorem dX7_ended_7 : decode cX7_ended 7 = .ok (.ifCond .ne 10, 3) := by decide +kernel
theorem dX7_ended_17 : decode cX7_ended 17 = .ok (.aload_n 0, 1) := by decide +kernel
theorem dX7_ended_18 : decode cX7_ended 18 = .ok (.invokevirtual 191, 3) := by decide +kernel
theorem dX7_ended_21 : decode cX7_ended 21 = .ok (.aload_n 0, 1) := by decide +kernel
theorem dX7_ended_22 : decode cX7_ended 22 = .ok (.iload_n 1, 1) := by decide +kernel
theorem dX7_ended_23 : decode cX7_ended 23 = .ok (.invokevirtual 194, 3) := by decide +kernel
theorem dX7_ended_26 : decode cX7_ended 26 = .ok (.aload_n 0, 1) := by decide +kernel
theorem dX7_ended_27 : decode cX7_ended 27 = .ok (.getfield 31, 3) := by decide +kernel
theorem dX7_ended_30 : decode cX7_ended 30 = .ok (.invokevirtual 198, 3) := by decide +kernel
theorem dX7_ended_33 : decode cX7_ended 33 = .ok (.ireturn, 1) := by decide +kernel
theorem dX7_ended_10 : decode cX7_ended 10 = .ok (.aload_n 0, 1) := by decide +kernel
theorem dX7_ended_11 : decode cX7_ended 11 = .ok (.ldc 68, 2) := by decide +kernel
theorem dX7_ended_13 : decode cX7_ended 13 = .ok (.invokevirtual 69, 3) := by decide +kernel
theorem dX7_ended_16 : decode cX7_ended 16 = .ok (.ireturn, 1) := by decide +kernel
theorem dX7_fee_0 : decode cX7_fee 0 = .ok (.iload_n 1, 1) := by decide +kernel
theorem dX7_fee_1 : decode cX7_fee 1 = .ok (.iconst 0, 1) := by decide +kernel
theorem dX7_fee_2 : decode cX7_fee 2 = .ok (.bipush 60, 2) := by decide +kernel
theorem dX7_fee_4 : decode cX7_fee 4 = .ok (.invokestatic 60, 3) := by decide +kernel
theorem dX7_fee_7 : decode cX7_fee 7 = .ok (.ifCond .ne 10, 3) := by decide +kernel
theorem dX7_fee_17 : decode cX7_fee 17 = .ok (.aload_n 0, 1) := by decide +kernel
theorem dX7_fee_18 : decode cX7_fee 18 = .ok (.invokevirtual 191, 3) := by decide +kernel
theorem dX7_fee_21 : decode cX7_fee 21 = .ok (.aload_n 0, 1) := by decide +kernel
theorem dX7_fee_22 : decode cX7_fee 22 = .ok (.iload_n 1, 1) := by decide +kernel
theorem dX7_fee_23 : decode cX7_fee 23 = .ok (.invokevirtual 194, 3) := by decide +kernel
theorem dX7_fee_26 : decode cX7_fee 26 = .ok (.aload_n 0, 1) := by decide +kernel
theorem dX7_fee_27 : decode cX7_fee 27 = .ok (.getfield 31, 3) := by decide +kernel
theorem dX7_fee_30 : decode cX7_fee 30 = .ok (.getfield 246, 3) := by decide +kernel
theorem dX7_fee_33 : decode cX7_fee 33 = .ok (.aload_n 0, 1) := by decide +kernel
theorem dX7_fee_34 : decode cX7_fee 34 = .ok (.getfield 12, 3) := by decide +kernel
theorem dX7_fee_37 : decode cX7_fee 37 = .ok (.getfield 72, 3) := by decide +kernel
theorem dX7_fee_40 : decode cX7_fee 40 = .ok (.getfield 246, 3) := by decide +kernel
theorem dX7_fee_43 : decode cX7_fee 43 = .ok (.isub, 1) := by decide +kernel
theorem dX7_fee_44 : decode cX7_fee 44 = .ok (.ireturn, 1) := by decide +kernel
theorem dX7_fee_10 : decode cX7_fee 10 = .ok (.aload_n 0, 1) := by decide +kernel
theorem dX7_fee_11 : decode cX7_fee 11 = .ok (.ldc 68, 2) := by decide +kernel
theorem dX7_fee_13 : decode cX7_fee 13 = .ok (.invokevirtual 69, 3) := by decide +kernel
theorem dX7_fee_16 : decode cX7_fee 16 = .ok (.ireturn, 1) := by decide +kernel
set_option maxRecDepth 100000 in
set_option maxHeartbeats 4000000 in
theorem g_X7_ended (l : Launch) (D : va_G) (y : wY) (ad : Nat → Nat) (M : Mem) (n : Nat) (hn : n ≤ 9) (hm : M 12 3 = nI n) (hB : ∀ q, q < 9 → BoolOK (M (14 + q) 6)) (z2 z7 : Nat) (hT2 : TextOK M 2 z2) (hT7 : TextOK M 7 z7) (nn : Int32) : MI l D y ad yX7_ended (Cond.code yX7_ended cX7_ended 2 (some .int)) 9 M [.ref (ad 0), .int nn] (fun _ M' => sm (fun b _ => b == 6 || b == 11 || b == 78 || (decide (49 ≤ b) && decide (b ≤ 59))) M M') := by
  refine MI_of (by decide) (Nat.le_of_ble_eq_true rfl) ?_
  intro p e s m args below meth c X hr hlocks
  refine j_lv (lv1 := [(0, .ref (ad 0)), (1, .int nn)]) [0, 1] rfl ?_
  refine j_iload_n X 1 rfl rfl dX7_ended_0 ?_
  refine j_iconst X (v := 0) (by decide) dX7_ended_1 ?_
  refine j_bipush X (v := 60) (by decide) dX7_ended_2 ?_
  refine j_callSI X (nn := 3) (As := [.int nn, .int 0, .int 60]) (st := []) aw_110 (g_X7_isWithin l D y ad M nn 0 60 0 60 (by decide) (by decide)) aw_109 aw_111 aw_2 (by decide +kernel) ⟨by decide, by decide⟩ rfl (Nat.le_of_ble_eq_true rfl) ⟨by decide, by decide⟩ dX7_ended_4 ?_
  rintro r_ M1_ (⟨rfl, rfl, h_1⟩ | ⟨rfl, rfl, h_1⟩)
  · refine j_if_ne X 17 (by decide) dX7_ended_7 (fun c_2 => ?_) (fun c_2 => False.elim (by revert c_2; decide))
    obtain ⟨N, hN, rfl⟩ := nI_oft (x := nn) (n := 60) (by omega) (by omega) (by decide)
    refine j_aload_n X 0 rfl rfl dX7_ended_17 ?_
    refine j_callVV X (nn := 0) (As := []) (st := []) (ci := 7) (by decide) (wE_7 _ rfl) rfl aw_534 aw_535 (g_think l D y ad M n (by omega) hm hB) aw_533 aw_536 aw_2 (by decide +kernel) ⟨by decide, by decide⟩ rfl (Nat.le_of_ble_eq_true rfl) ⟨by decide, by decide⟩ dX7_ended_18 ?_
    rintro M_4 ⟨s_3, s_3_g⟩
    refine j_aload_n X 0 rfl rfl dX7_ended_21 ?_
    refine j_iload_n X 1 rfl rfl dX7_ended_22 ?_
    refine j_callVV X (nn := 1) (As := [.int (nI N)]) (st := []) (ci := 7) (by decide) (wE_7 _ rfl) rfl aw_545 aw_546 (g_thinkDays l D y ad M_4 n (by omega) ((s_3_g 3 (by decide) (by decide)).trans hm) z2 z7 (TextOK_keep (P := (fun b _ => b == 6 || b == 11 || b == 78 || (decide (49 ≤ b) && decide (b ≤ 59)))) (sm_tr sm_rf (sm_w s_3 (by intro b k hb; first | rfl | exact hb | (simp only [Bool.or_eq_false_iff, Bool.and_eq_false_iff, beq_eq_false_iff_ne, ne_eq, decide_eq_false_iff_not] at hb ⊢; omega)))) (fun _ => rfl) (fun _ => rfl) (fun _ => rfl) (fun _ => rfl) hT2) (TextOK_keep (P := (fun b _ => b == 6 || b == 11 || b == 78 || (decide (49 ≤ b) && decide (b ≤ 59)))) (sm_tr sm_rf (sm_w s_3 (by intro b k hb; first | rfl | exact hb | (simp only [Bool.or_eq_false_iff, Bool.and_eq_false_iff, beq_eq_false_iff_ne, ne_eq, decide_eq_false_iff_not] at hb ⊢; omega)))) (fun _ => rfl) (fun _ => rfl) (fun _ => rfl) (fun _ => rfl) hT7) N (by omega)) aw_544 aw_547 aw_2 (by decide +kernel) ⟨by decide, by decide⟩ rfl (Nat.le_of_ble_eq_true rfl) ⟨by decide, by decide⟩ dX7_ended_23 ?_
    rintro M_6 s_5
    refine j_aload_n X 0 rfl rfl dX7_ended_26 ?_
    refine j_get X (by decide) (wE_7 _ rfl) rfl awF7 2 (by decide) aw_21 rfl (v := .ref (ad 49)) rfl dX7_ended_27 ?_
    refine j_callVNI X (nn := 0) (As := []) (st := []) (ci := 0) (by decide) (wE_0 _ rfl) rfl aw_466 aw_467 (g_setEnded_49 l D y ad M_6 n (by omega) ((s_5 49 3 rfl).trans ((s_3_g 3 (by decide) (by decide)).trans hm))) (List.mem_of_getElem? (i := 35) rfl) aw_468 aw_20 (by decide +kernel) ⟨by decide, by decide⟩ rfl (Nat.le_of_ble_eq_true rfl) ⟨by decide, by decide⟩ dX7_ended_30 ?_
    rintro r_ M1_ ⟨rfl, rfl⟩
    exact j_iret X hr hlocks dX7_ended_33 (sm_tr (sm_tr sm_rf (sm_w s_3 (by intro b k hb; first | rfl | exact hb | (simp only [Bool.or_eq_false_iff, Bool.and_eq_false_iff, beq_eq_false_iff_ne, ne_eq, decide_eq_false_iff_not] at hb ⊢; omega)))) (sm_w s_5 (by intro b k hb; first | rfl | exact hb | (simp only [Bool.or_eq_false_iff, Bool.and_eq_false_iff, beq_eq_false_iff_ne, ne_eq, decide_eq_false_iff_not] at hb ⊢; omega))))
  · refine j_if_ne X 17 (by decide) dX7_ended_7 (fun c_7 => False.elim (by revert c_7; decide)) (fun c_7 => ?_)
    refine j_aload_n X 0 rfl rfl dX7_ended_10 ?_
    refine j_ldc X (v := (-1000000001)) aw_108 dX7_ended_11 ?_
    refine j_callVI X (nn := 1) (As := [.int (-1000000001)]) (st := []) (ci := 7) (by decide) (wE_7 _ rfl) rfl aw_117 aw_118 (g_refuse l D y ad M (-1000000001) 1 (by decide) (by decide)) aw_116 aw_119 aw_2 (by decide +kernel) ⟨by decide, by decide⟩ rfl (Nat.le_of_ble_eq_true rfl) ⟨by decide, by decide⟩ dX7_ended_13 ?_
    rintro r_ M_9 ⟨rfl, s_8⟩
    exact j_iret X hr hlocks dX7_ended_16 (sm_tr sm_rf (sm_w s_8 (by intro b k hb; first | rfl | exact hb | (simp only [Bool.or_eq_false_iff, Bool.and_eq_false_iff, beq_eq_false_iff_ne, ne_eq, decide_eq_false_iff_not] at hb ⊢; omega))))
set_option maxRecDepth 100000 in
set_option maxHeartbeats 4000000 in
theorem g_X7_fee (l : Launch) (D : va_G) (y : wY) (ad : Nat → Nat) (M : Mem) (n : Nat) (hn : n ≤ 9) (hm : M 12 3 = nI n) (hB : ∀ q, q < 9 → BoolOK (M (14 + q) 6)) (z2 z7 : Nat) (hT2 : TextOK M 2 z2) (hT7 : TextOK M 7 z7) (nn : Int32) : MI l D y ad yX7_fee (Cond.code yX7_fee cX7_fee 2 (some .int)) 9 M [.ref (ad 0), .int nn] (fun _ M' => sm (fun b _ => b == 6 || b == 11 || b == 78 || (decide (49 ≤ b) && decide (b ≤ 59))) M M') := by
  refine MI_of (by decide) (Nat.le_of_ble_eq_true rfl) ?_
  intro p e s m args below meth c X hr hlocks
  refine j_lv (lv1 := [(0, .ref (ad 0)), (1, .int nn)]) [0, 1] rfl ?_
  refine j_iload_n X 1 rfl rfl dX7_fee_0 ?_
  refine j_iconst X (v := 0) (by decide) dX7_fee_1 ?_
  refine j_bipush X (v := 60) (by decide) dX7_fee_2 ?_
  refine j_callSI X (nn := 3) (As := [.int nn, .int 0, .int 60]) (st := []) aw_110 (g_X7_isWithin l D y ad M nn 0 60 0 60 (by decide) (by decide)) aw_109 aw_111 aw_2 (by decide +kernel) ⟨by decide, by decide⟩ rfl (Nat.le_of_ble_eq_true rfl) ⟨by decide, by decide⟩ dX7_fee_4 ?_
  rintro r_ M1_ (⟨rfl, rfl, h_1⟩ | ⟨rfl, rfl, h_1⟩)
  · refine j_if_ne X 17 (by decide) dX7_fee_7 (fun c_2 => ?_) (fun c_2 => False.elim (by revert c_2; decide))
    obtain ⟨N, hN, rfl⟩ := nI_oft (x := nn) (n := 60) (by omega) (by omega) (by decide)
    refine j_aload_n X 0 rfl rfl dX7_fee_17 ?_
    refine j_callVV X (nn := 0) (As := []) (st := []) (ci := 7) (by decide) (wE_7 _ rfl) rfl aw_534 aw_535 (g_think l D y ad M n (by omega) hm hB) aw_533 aw_536 aw_2 (by decide +kernel) ⟨by decide, by decide⟩ rfl (Nat.le_of_ble_eq_true rfl) ⟨by decide, by decide⟩ dX7_fee_18 ?_
    rintro M_4 ⟨s_3, s_3_g⟩
    refine j_aload_n X 0 rfl rfl dX7_fee_21 ?_
    refine j_iload_n X 1 rfl rfl dX7_fee_22 ?_
    refine j_callVV X (nn := 1) (As := [.int (nI N)]) (st := []) (ci := 7) (by decide) (wE_7 _ rfl) rfl aw_545 aw_546 (g_thinkDays l D y ad M_4 n (by omega) ((s_3_g 3 (by decide) (by decide)).trans hm) z2 z7 (TextOK_keep (P := (fun b _ => b == 6 || b == 11 || b == 78 || (decide (49 ≤ b) && decide (b ≤ 59)))) (sm_tr sm_rf (sm_w s_3 (by intro b k hb; first | rfl | exact hb | (simp only [Bool.or_eq_false_iff, Bool.and_eq_false_iff, beq_eq_false_iff_ne, ne_eq, decide_eq_false_iff_not] at hb ⊢; omega)))) (fun _ => rfl) (fun _ => rfl) (fun _ => rfl) (fun _ => rfl) hT2) (TextOK_keep (P := (fun b _ => b == 6 || b == 11 || b == 78 || (decide (49 ≤ b) && decide (b ≤ 59)))) (sm_tr sm_rf (sm_w s_3 (by intro b k hb; first | rfl | exact hb | (simp only [Bool.or_eq_false_iff, Bool.and_eq_false_iff, beq_eq_false_iff_ne, ne_eq, decide_eq_false_iff_not] at hb ⊢; omega)))) (fun _ => rfl) (fun _ => rfl) (fun _ => rfl) (fun _ => rfl) hT7) N (by omega)) aw_544 aw_547 aw_2 (by decide +kernel) ⟨by decide, by decide⟩ rfl (Nat.le_of_ble_eq_true rfl) ⟨by decide, by decide⟩ dX7_fee_23 ?_
    rintro M_6 s_5
    refine j_aload_n X 0 rfl rfl dX7_fee_26 ?_
    refine j_get X (by decide) (wE_7 _ rfl) rfl awF7 2 (by decide) aw_21 rfl (v := .ref (ad 49)) rfl dX7_fee_27 ?_
    refine j_getN X (by decide) (wE_0 _ rfl) rfl awF0 8 (by decide) (List.mem_of_getElem? (i := 20) rfl) rfl (v := .int (M_6 49 8)) rfl dX7_fee_30 ?_
    refine j_aload_n X 0 rfl rfl dX7_fee_33 ?_
    refine j_get X (by decide) (wE_7 _ rfl) rfl awF7 0 (by decide) aw_16 rfl (v := .ref (ad 1)) rfl dX7_fee_34 ?_
    refine j_getN X (by decide) (wE_6 _ rfl) rfl awF6 2 (by decide) (List.mem_of_getElem? (i := 23) rfl) rfl (v := .ref (ad 12)) rfl dX7_fee_37 ?_
    refine j_getN X (by decide) (wE_0 _ rfl) rfl awF0 8 (by decide) (List.mem_of_getElem? (i := 20) rfl) rfl (v := .int (M_6 12 8)) rfl dX7_fee_40 ?_
    refine j_isub X dX7_fee_43 ?_
    exact j_iret X hr hlocks dX7_fee_44 (sm_tr (sm_tr sm_rf (sm_w s_3 (by intro b k hb; first | rfl | exact hb | (simp only [Bool.or_eq_false_iff, Bool.and_eq_false_iff, beq_eq_false_iff_ne, ne_eq, decide_eq_false_iff_not] at hb ⊢; omega)))) (sm_w s_5 (by intro b k hb; first | rfl | exact hb | (simp only [Bool.or_eq_false_iff, Bool.and_eq_false_iff, beq_eq_false_iff_ne, ne_eq, decide_eq_false_iff_not] at hb ⊢; omega))))
  · refine j_if_ne X 17 (by decide) dX7_fee_7 (fun c_7 => False.elim (by revert c_7; decide)) (fun c_7 => ?_)
    refine j_aload_n X 0 rfl rfl dX7_fee_10 ?_
    refine j_ldc X (v := (-1000000001)) aw_108 dX7_fee_11 ?_
    refine j_callVI X (nn := 1) (As := [.int (-1000000001)]) (st := []) (ci := 7) (by decide) (wE_7 _ rfl) rfl aw_117 aw_118 (g_refuse l D y ad M (-1000000001) 1 (by decide) (by decide)) aw_116 aw_119 aw_2 (by decide +kernel) ⟨by decide, by decide⟩ rfl (Nat.le_of_ble_eq_true rfl) ⟨by decide, by decide⟩ dX7_fee_13 ?_
    rintro r_ M_9 ⟨rfl, s_8⟩
    exact j_iret X hr hlocks dX7_fee_16 (sm_tr sm_rf (sm_w s_8 (by intro b k hb; first | rfl | exact hb | (simp only [Bool.or_eq_false_iff, Bool.and_eq_false_iff, beq_eq_false_iff_ne, ne_eq, decide_eq_false_iff_not] at hb ⊢; omega))))
