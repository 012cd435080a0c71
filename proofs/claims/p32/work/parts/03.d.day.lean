theorem dX0_gainsOf_0 : decode cX0_gainsOf 0 = .ok (.aload_n 1, 1) := by decide +kernel
theorem dX0_gainsOf_1 : decode cX0_gainsOf 1 = .ok (.aload_n 0, 1) := by decide +kernel
theorem dX0_gainsOf_2 : decode cX0_gainsOf 2 = .ok (.getfield 21, 3) := by decide +kernel
theorem dX0_gainsOf_5 : decode cX0_gainsOf 5 = .ok (.aload_n 1, 1) := by decide +kernel
theorem dX0_gainsOf_6 : decode cX0_gainsOf 6 = .ok (.getfield 65, 3) := by decide +kernel
theorem dX0_gainsOf_9 : decode cX0_gainsOf 9 = .ok (.aload_n 1, 1) := by decide +kernel
theorem dX0_gainsOf_10 : decode cX0_gainsOf 10 = .ok (.getfield 87, 3) := by decide +kernel
theorem dX0_gainsOf_13 : decode cX0_gainsOf 13 = .ok (.aload_n 0, 1) := by decide +kernel
theorem dX0_gainsOf_14 : decode cX0_gainsOf 14 = .ok (.getfield 39, 3) := by decide +kernel
theorem dX0_gainsOf_17 : decode cX0_gainsOf 17 = .ok (.bipush 7, 2) := by decide +kernel
theorem dX0_gainsOf_19 : decode cX0_gainsOf 19 = .ok (.irem, 1) := by decide +kernel
theorem dX0_gainsOf_20 : decode cX0_gainsOf 20 = .ok (.invokevirtual 93, 3) := by decide +kernel
theorem dX0_gainsOf_23 : decode cX0_gainsOf 23 = .ok (.aload_n 0, 1) := by decide +kernel
theorem dX0_gainsOf_24 : decode cX0_gainsOf 24 = .ok (.getfield 39, 3) := by decide +kernel
theorem dX0_gainsOf_27 : decode cX0_gainsOf 27 = .ok (.invokevirtual 105, 3) := by decide +kernel
theorem dX0_gainsOf_30 : decode cX0_gainsOf 30 = .ok (.ireturn, 1) := by decide +kernel
set_option maxRecDepth 100000 in
set_option maxHeartbeats 4000000 in
theorem g_gainsOf_12 (l : Launch) (D : va_G) (y : wY) (ad : Nat → Nat) (M : Mem) (z2 : Nat) (hT2 : TextOK M 2 z2) (c0 : Nat) (hc0 : c0 < 92) (hk0 : kd c0 = 1) : MI l D y ad yX0_gainsOf (Cond.code yX0_gainsOf cX0_gainsOf 2 (some .int)) 3 M [.ref (ad 12), .ref (ad c0)] (fun _ M' => sm (fun b _ => b == 6) M M') := by
  refine MI_of (by decide) (Nat.le_of_ble_eq_true rfl) ?_
  intro p e s m args below meth c X hr hlocks
  refine j_lv (lv1 := [(0, .ref (ad 12)), (1, .ref (ad c0))]) [0, 1] rfl ?_
  refine j_aload_n X 1 rfl rfl dX0_gainsOf_0 ?_
  refine j_aload_n X 0 rfl rfl dX0_gainsOf_1 ?_
  refine j_get X (by decide) (wE_0 _ rfl) rfl awF0 0 (by decide) aw_62 rfl (v := .ref (ad 2)) rfl dX0_gainsOf_2 ?_
  refine j_aload_n X 1 rfl rfl dX0_gainsOf_5 ?_
  refine j_getN X hc0 (wE_1 _ hk0) rfl awF1 3 (by decide) (List.mem_of_getElem? (i := 7) rfl) rfl (v := .int (M c0 3)) rfl dX0_gainsOf_6 ?_
  refine j_aload_n X 1 rfl rfl dX0_gainsOf_9 ?_
  refine j_getN X hc0 (wE_1 _ hk0) rfl awF1 5 (by decide) (List.mem_of_getElem? (i := 11) rfl) rfl (v := .int (M c0 5)) rfl dX0_gainsOf_10 ?_
  refine j_aload_n X 0 rfl rfl dX0_gainsOf_13 ?_
  refine j_get X (by decide) (wE_0 _ rfl) rfl awF0 6 (by decide) aw_197 rfl (v := .int (M 12 6)) rfl dX0_gainsOf_14 ?_
  refine j_bipush X (v := 7) (by decide) dX0_gainsOf_17 ?_
  refine j_irem X (by decide) dX0_gainsOf_19 ?_
  refine j_callVNI X (nn := 3) (As := [.int (M c0 3), .int (M c0 5), .int ((M 12 6) - (M 12 6) / 7 * 7)]) (st := [.ref (ad c0)]) (ci := 4) (by decide) (wE_4 _ rfl) rfl aw_198 aw_199 (g_gives_2 l D y ad M z2 hT2 (M c0 3) (M c0 5) ((M 12 6) - (M 12 6) / 7 * 7)) (List.mem_of_getElem? (i := 14) rfl) aw_200 aw_41 (by decide +kernel) ⟨by decide, by decide⟩ rfl (Nat.le_of_ble_eq_true rfl) ⟨by decide, by decide⟩ dX0_gainsOf_20 ?_
  rintro r_2 M_3 s_1
  refine j_aload_n X 0 rfl rfl dX0_gainsOf_23 ?_
  refine j_get X (by decide) (wE_0 _ rfl) rfl awF0 6 (by decide) aw_197 rfl (v := .int (M_3 12 6)) rfl dX0_gainsOf_24 ?_
  refine j_callVNI X (nn := 2) (As := [.int r_2, .int (M_3 12 6)]) (st := []) (ci := 1) hc0 (wE_1 _ hk0) rfl aw_215 aw_216 (g_gains l D y ad M_3 c0 hc0 hk0 r_2 (M_3 12 6)) (List.mem_of_getElem? (i := 15) rfl) aw_217 aw_65 (by decide +kernel) ⟨by decide, by decide⟩ rfl (Nat.le_of_ble_eq_true rfl) ⟨by decide, by decide⟩ dX0_gainsOf_27 ?_
  rintro r_4 M1_ rfl
  exact j_iret X hr hlocks dX0_gainsOf_30 (sm_tr sm_rf (sm_w s_1 (by intro b k hb; first | rfl | exact hb | (simp only [Bool.or_eq_false_iff, Bool.and_eq_false_iff, beq_eq_false_iff_ne, ne_eq, decide_eq_false_iff_not] at hb ⊢; omega))))
set_option maxRecDepth 100000 in
set_option maxHeartbeats 4000000 in
theorem g_gainsOf_49 (l : Launch) (D : va_G) (y : wY) (ad : Nat → Nat) (M : Mem) (z2 : Nat) (hT2 : TextOK M 2 z2) (c0 : Nat) (hc0 : c0 < 92) (hk0 : kd c0 = 1) : MI l D y ad yX0_gainsOf (Cond.code yX0_gainsOf cX0_gainsOf 2 (some .int)) 3 M [.ref (ad 49), .ref (ad c0)] (fun _ M' => sm (fun b _ => b == 6) M M') := by
  refine MI_of (by decide) (Nat.le_of_ble_eq_true rfl) ?_
  intro p e s m args below meth c X hr hlocks
  refine j_lv (lv1 := [(0, .ref (ad 49)), (1, .ref (ad c0))]) [0, 1] rfl ?_
  refine j_aload_n X 1 rfl rfl dX0_gainsOf_0 ?_
  refine j_aload_n X 0 rfl rfl dX0_gainsOf_1 ?_
  refine j_get X (by decide) (wE_0 _ rfl) rfl awF0 0 (by decide) aw_62 rfl (v := .ref (ad 2)) rfl dX0_gainsOf_2 ?_
  refine j_aload_n X 1 rfl rfl dX0_gainsOf_5 ?_
  refine j_getN X hc0 (wE_1 _ hk0) rfl awF1 3 (by decide) (List.mem_of_getElem? (i := 7) rfl) rfl (v := .int (M c0 3)) rfl dX0_gainsOf_6 ?_
  refine j_aload_n X 1 rfl rfl dX0_gainsOf_9 ?_
  refine j_getN X hc0 (wE_1 _ hk0) rfl awF1 5 (by decide) (List.mem_of_getElem? (i := 11) rfl) rfl (v := .int (M c0 5)) rfl dX0_gainsOf_10 ?_
  refine j_aload_n X 0 rfl rfl dX0_gainsOf_13 ?_
  refine j_get X (by decide) (wE_0 _ rfl) rfl awF0 6 (by decide) aw_197 rfl (v := .int (M 49 6)) rfl dX0_gainsOf_14 ?_
  refine j_bipush X (v := 7) (by decide) dX0_gainsOf_17 ?_
  refine j_irem X (by decide) dX0_gainsOf_19 ?_
  refine j_callVNI X (nn := 3) (As := [.int (M c0 3), .int (M c0 5), .int ((M 49 6) - (M 49 6) / 7 * 7)]) (st := [.ref (ad c0)]) (ci := 4) (by decide) (wE_4 _ rfl) rfl aw_198 aw_199 (g_gives_2 l D y ad M z2 hT2 (M c0 3) (M c0 5) ((M 49 6) - (M 49 6) / 7 * 7)) (List.mem_of_getElem? (i := 14) rfl) aw_200 aw_41 (by decide +kernel) ⟨by decide, by decide⟩ rfl (Nat.le_of_ble_eq_true rfl) ⟨by decide, by decide⟩ dX0_gainsOf_20 ?_
  rintro r_2 M_3 s_1
  refine j_aload_n X 0 rfl rfl dX0_gainsOf_23 ?_
  refine j_get X (by decide) (wE_0 _ rfl) rfl awF0 6 (by decide) aw_197 rfl (v := .int (M_3 49 6)) rfl dX0_gainsOf_24 ?_
  refine j_callVNI X (nn := 2) (As := [.int r_2, .int (M_3 49 6)]) (st := []) (ci := 1) hc0 (wE_1 _ hk0) rfl aw_215 aw_216 (g_gains l D y ad M_3 c0 hc0 hk0 r_2 (M_3 49 6)) (List.mem_of_getElem? (i := 15) rfl) aw_217 aw_65 (by decide +kernel) ⟨by decide, by decide⟩ rfl (Nat.le_of_ble_eq_true rfl) ⟨by decide, by decide⟩ dX0_gainsOf_27 ?_
  rintro r_4 M1_ rfl
  exact j_iret X hr hlocks dX0_gainsOf_30 (sm_tr sm_rf (sm_w s_1 (by intro b k hb; first | rfl | exact hb | (simp only [Bool.or_eq_false_iff, Bool.and_eq_false_iff, beq_eq_false_iff_ne, ne_eq, decide_eq_false_iff_not] at hb ⊢; omega))))
