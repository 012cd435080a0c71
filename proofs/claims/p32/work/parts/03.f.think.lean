theorem dX7_think_0 : decode cX7_think 0 = .ok (.aload_n 0, 1) := by decide +kernel
theorem dX7_think_1 : decode cX7_think 1 = .ok (.getfield 31, 3) := by decide +kernel
theorem dX7_think_4 : decode cX7_think 4 = .ok (.aload_n 0, 1) := by decide +kernel
theorem dX7_think_5 : decode cX7_think 5 = .ok (.getfield 12, 3) := by decide +kernel
theorem dX7_think_8 : decode cX7_think 8 = .ok (.getfield 72, 3) := by decide +kernel
theorem dX7_think_11 : decode cX7_think 11 = .ok (.invokevirtual 315, 3) := by decide +kernel
theorem dX7_think_14 : decode cX7_think 14 = .ok (.return_, 1) := by decide +kernel
theorem dX7_thinkDays_0 : decode cX7_thinkDays 0 = .ok (.iconst 0, 1) := by decide +kernel
theorem dX7_thinkDays_1 : decode cX7_thinkDays 1 = .ok (.istore_n 2, 1) := by decide +kernel
theorem dX7_thinkDays_2 : decode cX7_thinkDays 2 = .ok (.iload_n 2, 1) := by decide +kernel
theorem dX7_thinkDays_3 : decode cX7_thinkDays 3 = .ok (.iload_n 1, 1) := by decide +kernel
theorem dX7_thinkDays_4 : decode cX7_thinkDays 4 = .ok (.if_icmp .ge 17, 3) := by decide +kernel
theorem dX7_thinkDays_21 : decode cX7_thinkDays 21 = .ok (.return_, 1) := by decide +kernel
theorem dX7_thinkDays_7 : decode cX7_thinkDays 7 = .ok (.aload_n 0, 1) := by decide +kernel
theorem dX7_thinkDays_8 : decode cX7_thinkDays 8 = .ok (.getfield 31, 3) := by decide +kernel
theorem dX7_thinkDays_11 : decode cX7_thinkDays 11 = .ok (.iconst 0, 1) := by decide +kernel
theorem dX7_thinkDays_12 : decode cX7_thinkDays 12 = .ok (.invokevirtual 178, 3) := by decide +kernel
theorem dX7_thinkDays_15 : decode cX7_thinkDays 15 = .ok (.iinc 2 1, 3) := by decide +kernel
theorem dX7_thinkDays_18 : decode cX7_thinkDays 18 = .ok (.goto (-16), 3) := by decide +kernel
theorem dX7_thinkDaysWithHarm_0 : decode cX7_thinkDaysWithHarm 0 = .ok (.iconst 0, 1) := by decide +kernel
theorem dX7_thinkDaysWithHarm_1 : decode cX7_thinkDaysWithHarm 1 = .ok (.istore_n 2, 1) := by decide +kernel
theorem dX7_thinkDaysWithHarm_2 : decode cX7_thinkDaysWithHarm 2 = .ok (.iload_n 2, 1) := by decide +kernel
theorem dX7_thinkDaysWithHarm_3 : decode cX7_thinkDaysWithHarm 3 = .ok (.iload_n 1, 1) := by decide +kernel
theorem dX7_thinkDaysWithHarm_4 : decode cX7_thinkDaysWithHarm 4 = .ok (.if_icmp .ge 17, 3) := by decide +kernel
theorem dX7_thinkDaysWithHarm_21 : decode cX7_thinkDaysWithHarm 21 = .ok (.return_, 1) := by decide +kernel
theorem dX7_thinkDaysWithHarm_7 : decode cX7_thinkDaysWithHarm 7 = .ok (.aload_n 0, 1) := by decide +kernel
theorem dX7_thinkDaysWithHarm_8 : decode cX7_thinkDaysWithHarm 8 = .ok (.getfield 31, 3) := by decide +kernel
theorem dX7_thinkDaysWithHarm_11 : decode cX7_thinkDaysWithHarm 11 = .ok (.iconst 1, 1) := by decide +kernel
theorem dX7_thinkDaysWithHarm_12 : decode cX7_thinkDaysWithHarm 12 = .ok (.invokevirtual 178, 3) := by decide +kernel
theorem dX7_thinkDaysWithHarm_15 : decode cX7_thinkDaysWithHarm 15 = .ok (.iinc 2 1, 3) := by decide +kernel
theorem dX7_thinkDaysWithHarm_18 : decode cX7_thinkDaysWithHarm 18 = .ok (.goto (-16), 3) := by decide +kernel
theorem bool_keep {M M1 : Mem} {P : Nat → Nat → Bool} {b : Nat} (hs : sm P M M1) (hP : ∀ q, q < 9 → P (b + q) 6 = false) (hB : ∀ q, q < 9 → BoolOK (M (b + q) 6)) : ∀ q, q < 9 → BoolOK (M1 (b + q) 6) := fun q hq => by rw [hs (b + q) 6 (hP q hq)]; exact hB q hq
set_option maxRecDepth 100000 in
set_option maxHeartbeats 4000000 in
theorem g_think (l : Launch) (D : va_G) (y : wY) (ad : Nat → Nat) (M : Mem) (n : Nat) (hn : n ≤ 9) (hm : M 12 3 = nI n) (hB : ∀ q, q < 9 → BoolOK (M (14 + q) 6)) : MV l D y ad yX7_think (Cond.code yX7_think cX7_think 1 none) 2 M [.ref (ad 0)] (fun M' => sm (fun b k => (b == 49 && decide (3 ≤ k) && decide (k ≤ 8)) || (decide (51 ≤ b) && decide (b ≤ 59))) M M' ∧ (∀ f, 3 ≤ f → f ≤ 8 → M' 49 f = M 12 f) ∧ (∀ q, q < n → BoolOK (M' (51 + q) 6))) := by
  refine MV_of (by decide) (Nat.le_of_ble_eq_true rfl) ?_
  intro p e s m args below meth c X hr hlocks
  refine j_lv (lv1 := [(0, .ref (ad 0))]) [0] rfl ?_
  refine j_aload_n X 0 rfl rfl dX7_think_0 ?_
  refine j_get X (by decide) (wE_7 _ rfl) rfl awF7 2 (by decide) aw_21 rfl (v := .ref (ad 49)) rfl dX7_think_1 ?_
  refine j_aload_n X 0 rfl rfl dX7_think_4 ?_
  refine j_get X (by decide) (wE_7 _ rfl) rfl awF7 0 (by decide) aw_16 rfl (v := .ref (ad 1)) rfl dX7_think_5 ?_
  refine j_getN X (by decide) (wE_6 _ rfl) rfl awF6 2 (by decide) (List.mem_of_getElem? (i := 23) rfl) rfl (v := .ref (ad 12)) rfl dX7_think_8 ?_
  refine j_callVNV X (nn := 1) (As := [.ref (ad 12)]) (st := []) (ci := 0) (by decide) (wE_0 _ rfl) rfl aw_537 aw_538 (g_copyGround_49_12 l D y ad M n (by omega) hm hB) (List.mem_of_getElem? (i := 33) rfl) aw_539 aw_20 (by decide +kernel) ⟨by decide, by decide⟩ rfl (Nat.le_of_ble_eq_true rfl) ⟨by decide, by decide⟩ dX7_think_11 ?_
  rintro M_2 ⟨s_1, s_1_o, s_1_g⟩
  exact j_vret X hr hlocks dX7_think_14 ⟨s_1, s_1_g, fun q hq => by rw [s_1_o q hq 6 (by decide)]; exact hB q (by omega)⟩
set_option maxRecDepth 100000 in
set_option maxHeartbeats 4000000 in
theorem g_thinkDays (l : Launch) (D : va_G) (y : wY) (ad : Nat → Nat) (M : Mem) (n : Nat) (hn : n ≤ 9) (hm : M 49 3 = nI n) (z2 z7 : Nat) (hT2 : TextOK M 2 z2) (hT7 : TextOK M 7 z7) (N : Nat) (hN : N ≤ 60) : MV l D y ad yX7_thinkDays (Cond.code yX7_thinkDays cX7_thinkDays 3 none) 7 M [.ref (ad 0), .int (nI N)] (fun M' => sm (fun b k => b == 6 || b == 11 || (b == 49 && (k == 4 || k == 6 || k == 7 || k == 8)) || (decide (51 ≤ b) && decide (b ≤ 59) && (k == 3 || k == 5 || k == 6))) M M' ∧ sme 51 M M') := by
  refine MV_of (by decide) (Nat.le_of_ble_eq_true rfl) ?_
  intro p e s m args below meth c X hr hlocks
  refine j_lv (lv1 := [(0, .ref (ad 0)), (1, .int (nI N))]) [0, 1] rfl ?_
  refine j_iconst X (v := 0) (by decide) dX7_thinkDays_0 ?_
  refine j_istore_n X [(2, .int 0), (0, .ref (ad 0)), (1, .int (nI N))] rfl (by decide) rfl dX7_thinkDays_1 ?_
  have loop1 : ∀ (n_1 i_1 : Nat) (M1 : Mem), i_1 ≤ N → N - i_1 < n_1 → sm (fun b k => b == 6 || b == 11 || (b == 49 && (k == 4 || k == 6 || k == 7 || k == 8)) || (decide (51 ≤ b) && decide (b ≤ 59) && (k == 3 || k == 5 || k == 6))) M M1 → (sme 51 M M1) → J p l e (rmN 7) s m args below meth c 0 0 (QV (fun M' => sm (fun b k => b == 6 || b == 11 || (b == 49 && (k == 4 || k == 6 || k == 7 || k == 8)) || (decide (51 ≤ b) && decide (b ≤ 59) && (k == 3 || k == 5 || k == 6))) M M' ∧ sme 51 M M') D y ad M s args below) D y ad (va_A (PL y ad M) s.heap.size) 3 M1 2 [(2, .int (nI i_1)), (0, .ref (ad 0)), (1, .int (nI N))] [] := by
    intro n_1
    induction n_1 with
    | zero => intro i_1 M1 h1 h2; exact absurd h2 (by omega)
    | succ n_1 ih1 =>
      intro i_1 M1 h1i_1 h2i_1 hs1 hvi_1
      refine j_iload_n X 0 rfl rfl dX7_thinkDays_2 ?_
      refine j_iload_n X 2 rfl rfl dX7_thinkDays_3 ?_
      refine j_icmp_ge X 21 (by decide) dX7_thinkDays_4 (fun c_2 => ?_) (fun c_2 => ?_)
      · have c_2 := (nI_leI (by omega) (by omega)).mp (show nI (N) ≤ nI i_1 from c_2)
        exact j_vret X hr hlocks dX7_thinkDays_21 ⟨(sm_tr sm_rf (sm_w hs1 (by intro b k hb; first | rfl | exact hb | (simp only [Bool.or_eq_false_iff, Bool.and_eq_false_iff, beq_eq_false_iff_ne, ne_eq, decide_eq_false_iff_not] at hb ⊢; omega)))), hvi_1⟩
      · have c_2 : i_1 < N := by
          rcases Nat.lt_or_ge i_1 (N) with g | g
          · exact g
          · exact absurd (show nI (N) ≤ nI i_1 from nI_le g (by omega)) c_2
        refine j_aload_n X 1 rfl rfl dX7_thinkDays_7 ?_
        refine j_get X (by decide) (wE_7 _ rfl) rfl awF7 2 (by decide) aw_21 rfl (v := .ref (ad 49)) rfl dX7_thinkDays_8 ?_
        refine j_iconst X (v := 0) (by decide) dX7_thinkDays_11 ?_
        refine j_callVNV X (nn := 1) (As := [.int 0]) (st := []) (ci := 0) (by decide) (wE_0 _ rfl) rfl aw_439 aw_440 (g_passDay_49 l D y ad M1 n (by omega) ((hs1 49 3 rfl).trans hm) z2 z7 (TextOK_keep (P := (fun b k => b == 6 || b == 11 || (b == 49 && (k == 4 || k == 6 || k == 7 || k == 8)) || (decide (51 ≤ b) && decide (b ≤ 59) && (k == 3 || k == 5 || k == 6)))) (sm_tr sm_rf (sm_w hs1 (by intro b k hb; first | rfl | exact hb | (simp only [Bool.or_eq_false_iff, Bool.and_eq_false_iff, beq_eq_false_iff_ne, ne_eq, decide_eq_false_iff_not] at hb ⊢; omega)))) (fun _ => rfl) (fun _ => rfl) (fun _ => rfl) (fun _ => rfl) hT2) (TextOK_keep (P := (fun b k => b == 6 || b == 11 || (b == 49 && (k == 4 || k == 6 || k == 7 || k == 8)) || (decide (51 ≤ b) && decide (b ≤ 59) && (k == 3 || k == 5 || k == 6)))) (sm_tr sm_rf (sm_w hs1 (by intro b k hb; first | rfl | exact hb | (simp only [Bool.or_eq_false_iff, Bool.and_eq_false_iff, beq_eq_false_iff_ne, ne_eq, decide_eq_false_iff_not] at hb ⊢; omega)))) (fun _ => rfl) (fun _ => rfl) (fun _ => rfl) (fun _ => rfl) hT7) 0) (List.mem_of_getElem? (i := 27) rfl) aw_441 aw_20 (by decide +kernel) ⟨by decide, by decide⟩ rfl (Nat.le_of_ble_eq_true rfl) ⟨by decide, by decide⟩ dX7_thinkDays_12 ?_
        rintro M_4 ⟨s_3, s_3_e⟩
        refine j_iinc X (v := (nI (i_1 + 1))) 0 [(2, .int (nI (i_1 + 1))), (0, .ref (ad 0)), (1, .int (nI N))] rfl (show nI i_1 + Int32.ofInt 1 = _ from nI_1 i_1) (by decide) rfl dX7_thinkDays_15 ?_
        refine j_goto X 2 (by decide) dX7_thinkDays_18 ?_
        refine j_lv (lv1 := [(2, .int (nI (i_1 + 1))), (0, .ref (ad 0)), (1, .int (nI N))]) [0, 1, 2] rfl ?_
        exact ih1 (i_1 + 1) _ (by omega) (by omega) (sm_tr hs1 (sm_w s_3 (by intro b k hb; first | rfl | exact hb | (simp only [Bool.or_eq_false_iff, Bool.and_eq_false_iff, beq_eq_false_iff_ne, ne_eq, decide_eq_false_iff_not] at hb ⊢; omega)))) (sme_tr hvi_1 s_3_e)
  refine j_lv (lv1 := [(2, .int (nI 0)), (0, .ref (ad 0)), (1, .int (nI N))]) [0, 1, 2] rfl ?_
  exact loop1 (N + 1) 0 _ (by omega) (by omega) sm_rf sme_rf
set_option maxRecDepth 100000 in
set_option maxHeartbeats 4000000 in
theorem g_thinkDaysWithHarm (l : Launch) (D : va_G) (y : wY) (ad : Nat → Nat) (M : Mem) (n : Nat) (hn : n ≤ 9) (hm : M 49 3 = nI n) (z2 z7 : Nat) (hT2 : TextOK M 2 z2) (hT7 : TextOK M 7 z7) (N : Nat) (hN : N ≤ 60) : MV l D y ad yX7_thinkDaysWithHarm (Cond.code yX7_thinkDaysWithHarm cX7_thinkDaysWithHarm 3 none) 7 M [.ref (ad 0), .int (nI N)] (fun M' => sm (fun b k => b == 6 || b == 11 || (b == 49 && (k == 4 || k == 6 || k == 7 || k == 8)) || (decide (51 ≤ b) && decide (b ≤ 59) && (k == 3 || k == 5 || k == 6))) M M' ∧ sme 51 M M') := by
  refine MV_of (by decide) (Nat.le_of_ble_eq_true rfl) ?_
  intro p e s m args below meth c X hr hlocks
  refine j_lv (lv1 := [(0, .ref (ad 0)), (1, .int (nI N))]) [0, 1] rfl ?_
  refine j_iconst X (v := 0) (by decide) dX7_thinkDaysWithHarm_0 ?_
  refine j_istore_n X [(2, .int 0), (0, .ref (ad 0)), (1, .int (nI N))] rfl (by decide) rfl dX7_thinkDaysWithHarm_1 ?_
  have loop1 : ∀ (n_1 i_1 : Nat) (M1 : Mem), i_1 ≤ N → N - i_1 < n_1 → sm (fun b k => b == 6 || b == 11 || (b == 49 && (k == 4 || k == 6 || k == 7 || k == 8)) || (decide (51 ≤ b) && decide (b ≤ 59) && (k == 3 || k == 5 || k == 6))) M M1 → (sme 51 M M1) → J p l e (rmN 7) s m args below meth c 0 0 (QV (fun M' => sm (fun b k => b == 6 || b == 11 || (b == 49 && (k == 4 || k == 6 || k == 7 || k == 8)) || (decide (51 ≤ b) && decide (b ≤ 59) && (k == 3 || k == 5 || k == 6))) M M' ∧ sme 51 M M') D y ad M s args below) D y ad (va_A (PL y ad M) s.heap.size) 3 M1 2 [(2, .int (nI i_1)), (0, .ref (ad 0)), (1, .int (nI N))] [] := by
    intro n_1
    induction n_1 with
    | zero => intro i_1 M1 h1 h2; exact absurd h2 (by omega)
    | succ n_1 ih1 =>
      intro i_1 M1 h1i_1 h2i_1 hs1 hvi_1
      refine j_iload_n X 0 rfl rfl dX7_thinkDaysWithHarm_2 ?_
      refine j_iload_n X 2 rfl rfl dX7_thinkDaysWithHarm_3 ?_
      refine j_icmp_ge X 21 (by decide) dX7_thinkDaysWithHarm_4 (fun c_2 => ?_) (fun c_2 => ?_)
      · have c_2 := (nI_leI (by omega) (by omega)).mp (show nI (N) ≤ nI i_1 from c_2)
        exact j_vret X hr hlocks dX7_thinkDaysWithHarm_21 ⟨(sm_tr sm_rf (sm_w hs1 (by intro b k hb; first | rfl | exact hb | (simp only [Bool.or_eq_false_iff, Bool.and_eq_false_iff, beq_eq_false_iff_ne, ne_eq, decide_eq_false_iff_not] at hb ⊢; omega)))), hvi_1⟩
      · have c_2 : i_1 < N := by
          rcases Nat.lt_or_ge i_1 (N) with g | g
          · exact g
          · exact absurd (show nI (N) ≤ nI i_1 from nI_le g (by omega)) c_2
        refine j_aload_n X 1 rfl rfl dX7_thinkDaysWithHarm_7 ?_
        refine j_get X (by decide) (wE_7 _ rfl) rfl awF7 2 (by decide) aw_21 rfl (v := .ref (ad 49)) rfl dX7_thinkDaysWithHarm_8 ?_
        refine j_iconst X (v := 1) (by decide) dX7_thinkDaysWithHarm_11 ?_
        refine j_callVNV X (nn := 1) (As := [.int 1]) (st := []) (ci := 0) (by decide) (wE_0 _ rfl) rfl aw_439 aw_440 (g_passDay_49 l D y ad M1 n (by omega) ((hs1 49 3 rfl).trans hm) z2 z7 (TextOK_keep (P := (fun b k => b == 6 || b == 11 || (b == 49 && (k == 4 || k == 6 || k == 7 || k == 8)) || (decide (51 ≤ b) && decide (b ≤ 59) && (k == 3 || k == 5 || k == 6)))) (sm_tr sm_rf (sm_w hs1 (by intro b k hb; first | rfl | exact hb | (simp only [Bool.or_eq_false_iff, Bool.and_eq_false_iff, beq_eq_false_iff_ne, ne_eq, decide_eq_false_iff_not] at hb ⊢; omega)))) (fun _ => rfl) (fun _ => rfl) (fun _ => rfl) (fun _ => rfl) hT2) (TextOK_keep (P := (fun b k => b == 6 || b == 11 || (b == 49 && (k == 4 || k == 6 || k == 7 || k == 8)) || (decide (51 ≤ b) && decide (b ≤ 59) && (k == 3 || k == 5 || k == 6)))) (sm_tr sm_rf (sm_w hs1 (by intro b k hb; first | rfl | exact hb | (simp only [Bool.or_eq_false_iff, Bool.and_eq_false_iff, beq_eq_false_iff_ne, ne_eq, decide_eq_false_iff_not] at hb ⊢; omega)))) (fun _ => rfl) (fun _ => rfl) (fun _ => rfl) (fun _ => rfl) hT7) 1) (List.mem_of_getElem? (i := 27) rfl) aw_441 aw_20 (by decide +kernel) ⟨by decide, by decide⟩ rfl (Nat.le_of_ble_eq_true rfl) ⟨by decide, by decide⟩ dX7_thinkDaysWithHarm_12 ?_
        rintro M_4 ⟨s_3, s_3_e⟩
        refine j_iinc X (v := (nI (i_1 + 1))) 0 [(2, .int (nI (i_1 + 1))), (0, .ref (ad 0)), (1, .int (nI N))] rfl (show nI i_1 + Int32.ofInt 1 = _ from nI_1 i_1) (by decide) rfl dX7_thinkDaysWithHarm_15 ?_
        refine j_goto X 2 (by decide) dX7_thinkDaysWithHarm_18 ?_
        refine j_lv (lv1 := [(2, .int (nI (i_1 + 1))), (0, .ref (ad 0)), (1, .int (nI N))]) [0, 1, 2] rfl ?_
        exact ih1 (i_1 + 1) _ (by omega) (by omega) (sm_tr hs1 (sm_w s_3 (by intro b k hb; first | rfl | exact hb | (simp only [Bool.or_eq_false_iff, Bool.and_eq_false_iff, beq_eq_false_iff_ne, ne_eq, decide_eq_false_iff_not] at hb ⊢; omega)))) (sme_tr hvi_1 s_3_e)
  refine j_lv (lv1 := [(2, .int (nI 0)), (0, .ref (ad 0)), (1, .int (nI N))]) [0, 1, 2] rfl ?_
  exact loop1 (N + 1) 0 _ (by omega) (by omega) sm_rf sme_rf
