theorem dX0_grindArea_0 : decode cX0_grindArea 0 = .ok (.iconst 0, 1) := by decide +kernel
theorem dX0_grindArea_1 : decode cX0_grindArea 1 = .ok (.istore_n 1, 1) := by decide +kernel
theorem dX0_grindArea_2 : decode cX0_grindArea 2 = .ok (.iload_n 1, 1) := by decide +kernel
theorem dX0_grindArea_3 : decode cX0_grindArea 3 = .ok (.aload_n 0, 1) := by decide +kernel
theorem dX0_grindArea_4 : decode cX0_grindArea 4 = .ok (.getfield 29, 3) := by decide +kernel
theorem dX0_grindArea_7 : decode cX0_grindArea 7 = .ok (.if_icmp .ge 68, 3) := by decide +kernel
theorem dX0_grindArea_75 : decode cX0_grindArea 75 = .ok (.return_, 1) := by decide +kernel
theorem dX0_endOrDull_0 : decode cX0_endOrDull 0 = .ok (.iconst 0, 1) := by decide +kernel
theorem dX0_endOrDull_1 : decode cX0_endOrDull 1 = .ok (.istore_n 2, 1) := by decide +kernel
theorem dX0_endOrDull_2 : decode cX0_endOrDull 2 = .ok (.iload_n 2, 1) := by decide +kernel
theorem dX0_endOrDull_3 : decode cX0_endOrDull 3 = .ok (.aload_n 0, 1) := by decide +kernel
theorem dX0_endOrDull_4 : decode cX0_endOrDull 4 = .ok (.getfield 29, 3) := by decide +kernel
theorem dX0_endOrDull_7 : decode cX0_endOrDull 7 = .ok (.if_icmp .ge 123, 3) := by decide +kernel
theorem dX0_endOrDull_130 : decode cX0_endOrDull 130 = .ok (.return_, 1) := by decide +kernel
theorem dX0_setEnded_0 : decode cX0_setEnded 0 = .ok (.iconst 0, 1) := by decide +kernel
theorem dX0_setEnded_1 : decode cX0_setEnded 1 = .ok (.istore_n 1, 1) := by decide +kernel
theorem dX0_setEnded_2 : decode cX0_setEnded 2 = .ok (.iconst 0, 1) := by decide +kernel
theorem dX0_setEnded_3 : decode cX0_setEnded 3 = .ok (.istore_n 2, 1) := by decide +kernel
theorem dX0_setEnded_4 : decode cX0_setEnded 4 = .ok (.iload_n 2, 1) := by decide +kernel
theorem dX0_setEnded_5 : decode cX0_setEnded 5 = .ok (.aload_n 0, 1) := by decide +kernel
theorem dX0_setEnded_6 : decode cX0_setEnded 6 = .ok (.getfield 29, 3) := by decide +kernel
theorem dX0_setEnded_9 : decode cX0_setEnded 9 = .ok (.if_icmp .ge 31, 3) := by decide +kernel
theorem dX0_setEnded_40 : decode cX0_setEnded 40 = .ok (.iload_n 1, 1) := by decide +kernel
theorem dX0_setEnded_41 : decode cX0_setEnded 41 = .ok (.ireturn, 1) := by decide +kernel
theorem dX0_setInArea_0 : decode cX0_setInArea 0 = .ok (.iconst 0, 1) := by decide +kernel
theorem dX0_setInArea_1 : decode cX0_setInArea 1 = .ok (.istore_n 2, 1) := by decide +kernel
theorem dX0_setInArea_2 : decode cX0_setInArea 2 = .ok (.iconst 0, 1) := by decide +kernel
theorem dX0_setInArea_3 : decode cX0_setInArea 3 = .ok (.istore_n 3, 1) := by decide +kernel
theorem dX0_setInArea_4 : decode cX0_setInArea 4 = .ok (.iload_n 3, 1) := by decide +kernel
theorem dX0_setInArea_5 : decode cX0_setInArea 5 = .ok (.aload_n 0, 1) := by decide +kernel
theorem dX0_setInArea_6 : decode cX0_setInArea 6 = .ok (.getfield 29, 3) := by decide +kernel
theorem dX0_setInArea_9 : decode cX0_setInArea 9 = .ok (.if_icmp .ge 32, 3) := by decide +kernel
theorem dX0_setInArea_41 : decode cX0_setInArea 41 = .ok (.iload_n 2, 1) := by decide +kernel
theorem dX0_setInArea_42 : decode cX0_setInArea 42 = .ok (.ireturn, 1) := by decide +kernel
theorem dX0_setFree_0 : decode cX0_setFree 0 = .ok (.iconst 0, 1) := by decide +kernel
theorem dX0_setFree_1 : decode cX0_setFree 1 = .ok (.istore_n 1, 1) := by decide +kernel
theorem dX0_setFree_2 : decode cX0_setFree 2 = .ok (.iconst 0, 1) := by decide +kernel
theorem dX0_setFree_3 : decode cX0_setFree 3 = .ok (.istore_n 2, 1) := by decide +kernel
theorem dX0_setFree_4 : decode cX0_setFree 4 = .ok (.iload_n 2, 1) := by decide +kernel
theorem dX0_setFree_5 : decode cX0_setFree 5 = .ok (.aload_n 0, 1) := by decide +kernel
theorem dX0_setFree_6 : decode cX0_setFree 6 = .ok (.getfield 29, 3) := by decide +kernel
theorem dX0_setFree_9 : decode cX0_setFree 9 = .ok (.if_icmp .ge 44, 3) := by decide +kernel
theorem dX0_setFree_53 : decode cX0_setFree 53 = .ok (.iload_n 1, 1) := by decide +kernel
theorem dX0_setFree_54 : decode cX0_setFree 54 = .ok (.ireturn, 1) := by decide +kernel
theorem dX0_edgesTogether_0 : decode cX0_edgesTogether 0 = .ok (.iconst 0, 1) := by decide +kernel
theorem dX0_edgesTogether_1 : decode cX0_edgesTogether 1 = .ok (.istore_n 1, 1) := by decide +kernel
theorem dX0_edgesTogether_2 : decode cX0_edgesTogether 2 = .ok (.iconst 0, 1) := by decide +kernel
theorem dX0_edgesTogether_3 : decode cX0_edgesTogether 3 = .ok (.istore_n 2, 1) := by decide +kernel
theorem dX0_edgesTogether_4 : decode cX0_edgesTogether 4 = .ok (.iload_n 2, 1) := by decide +kernel
theorem dX0_edgesTogether_5 : decode cX0_edgesTogether 5 = .ok (.aload_n 0, 1) := by decide +kernel
theorem dX0_edgesTogether_6 : decode cX0_edgesTogether 6 = .ok (.getfield 29, 3) := by decide +kernel
theorem dX0_edgesTogether_9 : decode cX0_edgesTogether 9 = .ok (.if_icmp .ge 21, 3) := by decide +kernel
theorem dX0_edgesTogether_30 : decode cX0_edgesTogether 30 = .ok (.iload_n 1, 1) := by decide +kernel
theorem dX0_edgesTogether_31 : decode cX0_edgesTogether 31 = .ok (.ireturn, 1) := by decide +kernel
theorem dX0_endedMany_0 : decode cX0_endedMany 0 = .ok (.aload_n 0, 1) := by decide +kernel
theorem dX0_endedMany_1 : decode cX0_endedMany 1 = .ok (.invokevirtual 122, 3) := by decide +kernel
theorem dX0_endedMany_4 : decode cX0_endedMany 4 = .ok (.invokestatic 125, 3) := by decide +kernel
theorem dX0_endedMany_7 : decode cX0_endedMany 7 = .ok (.ireturn, 1) := by decide +kernel
theorem dX0_restDay_0 : decode cX0_restDay 0 = .ok (.aload_n 0, 1) := by decide +kernel
theorem dX0_restDay_1 : decode cX0_restDay 1 = .ok (.iload_n 1, 1) := by decide +kernel
theorem dX0_restDay_2 : decode cX0_restDay 2 = .ok (.invokevirtual 55, 3) := by decide +kernel
theorem dX0_restDay_5 : decode cX0_restDay 5 = .ok (.aload_n 0, 1) := by decide +kernel
theorem dX0_restDay_6 : decode cX0_restDay 6 = .ok (.aload_n 0, 1) := by decide +kernel
theorem dX0_restDay_7 : decode cX0_restDay 7 = .ok (.getfield 36, 3) := by decide +kernel
theorem dX0_restDay_10 : decode cX0_restDay 10 = .ok (.aload_n 0, 1) := by decide +kernel
theorem dX0_restDay_11 : decode cX0_restDay 11 = .ok (.getfield 17, 3) := by decide +kernel
theorem dX0_restDay_14 : decode cX0_restDay 14 = .ok (.iadd, 1) := by decide +kernel
theorem dX0_restDay_15 : decode cX0_restDay 15 = .ok (.bipush 10, 2) := by decide +kernel
theorem dX0_restDay_17 : decode cX0_restDay 17 = .ok (.irem, 1) := by decide +kernel
theorem dX0_restDay_18 : decode cX0_restDay 18 = .ok (.putfield 36, 3) := by decide +kernel
theorem dX0_restDay_21 : decode cX0_restDay 21 = .ok (.aload_n 0, 1) := by decide +kernel
theorem dX0_restDay_22 : decode cX0_restDay 22 = .ok (.dup, 1) := by decide +kernel
theorem dX0_restDay_23 : decode cX0_restDay 23 = .ok (.getfield 39, 3) := by decide +kernel
theorem dX0_restDay_26 : decode cX0_restDay 26 = .ok (.iconst 1, 1) := by decide +kernel
theorem dX0_restDay_27 : decode cX0_restDay 27 = .ok (.iadd, 1) := by decide +kernel
theorem dX0_restDay_28 : decode cX0_restDay 28 = .ok (.putfield 39, 3) := by decide +kernel
theorem dX0_restDay_31 : decode cX0_restDay 31 = .ok (.return_, 1) := by decide +kernel
theorem dX0_passDay_0 : decode cX0_passDay 0 = .ok (.aload_n 0, 1) := by decide +kernel
theorem dX0_passDay_1 : decode cX0_passDay 1 = .ok (.invokevirtual 48, 3) := by decide +kernel
theorem dX0_passDay_4 : decode cX0_passDay 4 = .ok (.aload_n 0, 1) := by decide +kernel
theorem dX0_passDay_5 : decode cX0_passDay 5 = .ok (.iload_n 1, 1) := by decide +kernel
theorem dX0_passDay_6 : decode cX0_passDay 6 = .ok (.invokevirtual 51, 3) := by decide +kernel
theorem dX0_passDay_9 : decode cX0_passDay 9 = .ok (.return_, 1) := by decide +kernel
theorem dX0_copyFrom_0 : decode cX0_copyFrom 0 = .ok (.iconst 0, 1) := by decide +kernel
theorem dX0_copyFrom_1 : decode cX0_copyFrom 1 = .ok (.istore_n 2, 1) := by decide +kernel
theorem dX0_copyFrom_2 : decode cX0_copyFrom 2 = .ok (.iload_n 2, 1) := by decide +kernel
theorem dX0_copyFrom_3 : decode cX0_copyFrom 3 = .ok (.aload_n 1, 1) := by decide +kernel
theorem dX0_copyFrom_4 : decode cX0_copyFrom 4 = .ok (.getfield 29, 3) := by decide +kernel
theorem dX0_copyFrom_7 : decode cX0_copyFrom 7 = .ok (.if_icmp .ge 24, 3) := by decide +kernel
theorem dX0_copyFrom_31 : decode cX0_copyFrom 31 = .ok (.aload_n 0, 1) := by decide +kernel
theorem dX0_copyFrom_32 : decode cX0_copyFrom 32 = .ok (.aload_n 1, 1) := by decide +kernel
theorem dX0_copyFrom_33 : decode cX0_copyFrom 33 = .ok (.getfield 29, 3) := by decide +kernel
theorem dX0_copyFrom_36 : decode cX0_copyFrom 36 = .ok (.putfield 29, 3) := by decide +kernel
theorem dX0_copyFrom_39 : decode cX0_copyFrom 39 = .ok (.aload_n 0, 1) := by decide +kernel
theorem dX0_copyFrom_40 : decode cX0_copyFrom 40 = .ok (.aload_n 1, 1) := by decide +kernel
theorem dX0_copyFrom_41 : decode cX0_copyFrom 41 = .ok (.getfield 36, 3) := by decide +kernel
theorem dX0_copyFrom_44 : decode cX0_copyFrom 44 = .ok (.putfield 36, 3) := by decide +kernel
theorem dX0_copyFrom_47 : decode cX0_copyFrom 47 = .ok (.aload_n 0, 1) := by decide +kernel
theorem dX0_copyFrom_48 : decode cX0_copyFrom 48 = .ok (.aload_n 1, 1) := by decide +kernel
theorem dX0_copyFrom_49 : decode cX0_copyFrom 49 = .ok (.getfield 17, 3) := by decide +kernel
theorem dX0_copyFrom_52 : decode cX0_copyFrom 52 = .ok (.putfield 17, 3) := by decide +kernel
theorem dX0_copyFrom_55 : decode cX0_copyFrom 55 = .ok (.aload_n 0, 1) := by decide +kernel
theorem dX0_copyFrom_56 : decode cX0_copyFrom 56 = .ok (.aload_n 1, 1) := by decide +kernel
theorem dX0_copyFrom_57 : decode cX0_copyFrom 57 = .ok (.getfield 39, 3) := by decide +kernel
theorem dX0_copyFrom_60 : decode cX0_copyFrom 60 = .ok (.putfield 39, 3) := by decide +kernel
theorem dX0_copyFrom_63 : decode cX0_copyFrom 63 = .ok (.aload_n 0, 1) := by decide +kernel
theorem dX0_copyFrom_64 : decode cX0_copyFrom 64 = .ok (.aload_n 1, 1) := by decide +kernel
theorem dX0_copyFrom_65 : decode cX0_copyFrom 65 = .ok (.getfield 42, 3) := by decide +kernel
theorem dX0_copyFrom_68 : decode cX0_copyFrom 68 = .ok (.putfield 42, 3) := by decide +kernel
theorem dX0_copyFrom_71 : decode cX0_copyFrom 71 = .ok (.aload_n 0, 1) := by decide +kernel
theorem dX0_copyFrom_72 : decode cX0_copyFrom 72 = .ok (.aload_n 1, 1) := by decide +kernel
theorem dX0_copyFrom_73 : decode cX0_copyFrom 73 = .ok (.getfield 45, 3) := by decide +kernel
theorem dX0_copyFrom_76 : decode cX0_copyFrom 76 = .ok (.putfield 45, 3) := by decide +kernel
theorem dX0_copyFrom_79 : decode cX0_copyFrom 79 = .ok (.return_, 1) := by decide +kernel
set_option maxRecDepth 100000 in
set_option maxHeartbeats 4000000 in
theorem c_grindArea0_12 (l : Launch) (D : va_G) (y : wY) (ad : Nat → Nat) (M : Mem) (hm : M 12 3 = 0) : MV l D y ad yX0_grindArea (Cond.code yX0_grindArea cX0_grindArea 3 none) 0 M [.ref (ad 12)] (fun M' => M = M') := by
  refine MV_of (by decide) (Nat.le_of_ble_eq_true rfl) ?_
  intro p e s m args below meth c X hr hlocks
  refine j_lv (lv1 := [(0, .ref (ad 12))]) [0] rfl ?_
  refine j_iconst X (v := 0) (by decide) dX0_grindArea_0 ?_
  refine j_istore_n X [(1, .int 0), (0, .ref (ad 12))] rfl (by decide) rfl dX0_grindArea_1 ?_
  refine j_iload_n X 0 rfl rfl dX0_grindArea_2 ?_
  refine j_aload_n X 1 rfl rfl dX0_grindArea_3 ?_
  refine j_get X (by decide) (wE_0 _ rfl) rfl awF0 3 (by decide) aw_155 rfl (v := .int (M 12 3)) rfl dX0_grindArea_4 ?_
  refine j_eqi (v := 0) hm ?_
  refine j_icmp_ge X 75 (by decide) dX0_grindArea_7 (fun c_1 => ?_) (fun c_1 => False.elim (by revert c_1; decide))
  exact j_vret X hr hlocks dX0_grindArea_75 rfl
set_option maxRecDepth 100000 in
set_option maxHeartbeats 4000000 in
theorem c_endOrDull0_12 (l : Launch) (D : va_G) (y : wY) (ad : Nat → Nat) (M : Mem) (hm : M 12 3 = 0) (b : Int32) : MV l D y ad yX0_endOrDull (Cond.code yX0_endOrDull cX0_endOrDull 4 none) 0 M [.ref (ad 12), .int b] (fun M' => M = M') := by
  refine MV_of (by decide) (Nat.le_of_ble_eq_true rfl) ?_
  intro p e s m args below meth c X hr hlocks
  refine j_lv (lv1 := [(0, .ref (ad 12)), (1, .int b)]) [0, 1] rfl ?_
  refine j_iconst X (v := 0) (by decide) dX0_endOrDull_0 ?_
  refine j_istore_n X [(2, .int 0), (0, .ref (ad 12)), (1, .int b)] rfl (by decide) rfl dX0_endOrDull_1 ?_
  refine j_iload_n X 0 rfl rfl dX0_endOrDull_2 ?_
  refine j_aload_n X 1 rfl rfl dX0_endOrDull_3 ?_
  refine j_get X (by decide) (wE_0 _ rfl) rfl awF0 3 (by decide) aw_155 rfl (v := .int (M 12 3)) rfl dX0_endOrDull_4 ?_
  refine j_eqi (v := 0) hm ?_
  refine j_icmp_ge X 130 (by decide) dX0_endOrDull_7 (fun c_1 => ?_) (fun c_1 => False.elim (by revert c_1; decide))
  exact j_vret X hr hlocks dX0_endOrDull_130 rfl
set_option maxRecDepth 100000 in
set_option maxHeartbeats 4000000 in
theorem c_setEnded0_12 (l : Launch) (D : va_G) (y : wY) (ad : Nat → Nat) (M : Mem) (hm : M 12 3 = 0) : MI l D y ad yX0_setEnded (Cond.code yX0_setEnded cX0_setEnded 3 (some .int)) 0 M [.ref (ad 12)] (fun r M' => 0 = r ∧ M = M') := by
  refine MI_of (by decide) (Nat.le_of_ble_eq_true rfl) ?_
  intro p e s m args below meth c X hr hlocks
  refine j_lv (lv1 := [(0, .ref (ad 12))]) [0] rfl ?_
  refine j_iconst X (v := 0) (by decide) dX0_setEnded_0 ?_
  refine j_istore_n X [(1, .int 0), (0, .ref (ad 12))] rfl (by decide) rfl dX0_setEnded_1 ?_
  refine j_iconst X (v := 0) (by decide) dX0_setEnded_2 ?_
  refine j_istore_n X [(2, .int 0), (1, .int 0), (0, .ref (ad 12))] rfl (by decide) rfl dX0_setEnded_3 ?_
  refine j_iload_n X 0 rfl rfl dX0_setEnded_4 ?_
  refine j_aload_n X 2 rfl rfl dX0_setEnded_5 ?_
  refine j_get X (by decide) (wE_0 _ rfl) rfl awF0 3 (by decide) aw_155 rfl (v := .int (M 12 3)) rfl dX0_setEnded_6 ?_
  refine j_eqi (v := 0) hm ?_
  refine j_icmp_ge X 40 (by decide) dX0_setEnded_9 (fun c_1 => ?_) (fun c_1 => False.elim (by revert c_1; decide))
  refine j_iload_n X 1 rfl rfl dX0_setEnded_40 ?_
  exact j_iret X hr hlocks dX0_setEnded_41 ⟨rfl, rfl⟩
set_option maxRecDepth 100000 in
set_option maxHeartbeats 4000000 in
theorem c_setInArea0_12 (l : Launch) (D : va_G) (y : wY) (ad : Nat → Nat) (M : Mem) (hm : M 12 3 = 0) (b : Int32) : MI l D y ad yX0_setInArea (Cond.code yX0_setInArea cX0_setInArea 4 (some .int)) 0 M [.ref (ad 12), .int b] (fun r M' => 0 = r ∧ M = M') := by
  refine MI_of (by decide) (Nat.le_of_ble_eq_true rfl) ?_
  intro p e s m args below meth c X hr hlocks
  refine j_lv (lv1 := [(0, .ref (ad 12)), (1, .int b)]) [0, 1] rfl ?_
  refine j_iconst X (v := 0) (by decide) dX0_setInArea_0 ?_
  refine j_istore_n X [(2, .int 0), (0, .ref (ad 12)), (1, .int b)] rfl (by decide) rfl dX0_setInArea_1 ?_
  refine j_iconst X (v := 0) (by decide) dX0_setInArea_2 ?_
  refine j_istore_n X [(3, .int 0), (2, .int 0), (0, .ref (ad 12)), (1, .int b)] rfl (by decide) rfl dX0_setInArea_3 ?_
  refine j_iload_n X 0 rfl rfl dX0_setInArea_4 ?_
  refine j_aload_n X 2 rfl rfl dX0_setInArea_5 ?_
  refine j_get X (by decide) (wE_0 _ rfl) rfl awF0 3 (by decide) aw_155 rfl (v := .int (M 12 3)) rfl dX0_setInArea_6 ?_
  refine j_eqi (v := 0) hm ?_
  refine j_icmp_ge X 41 (by decide) dX0_setInArea_9 (fun c_1 => ?_) (fun c_1 => False.elim (by revert c_1; decide))
  refine j_iload_n X 1 rfl rfl dX0_setInArea_41 ?_
  exact j_iret X hr hlocks dX0_setInArea_42 ⟨rfl, rfl⟩
set_option maxRecDepth 100000 in
set_option maxHeartbeats 4000000 in
theorem c_setFree0_12 (l : Launch) (D : va_G) (y : wY) (ad : Nat → Nat) (M : Mem) (hm : M 12 3 = 0) : MI l D y ad yX0_setFree (Cond.code yX0_setFree cX0_setFree 3 (some .int)) 0 M [.ref (ad 12)] (fun r M' => 0 = r ∧ M = M') := by
  refine MI_of (by decide) (Nat.le_of_ble_eq_true rfl) ?_
  intro p e s m args below meth c X hr hlocks
  refine j_lv (lv1 := [(0, .ref (ad 12))]) [0] rfl ?_
  refine j_iconst X (v := 0) (by decide) dX0_setFree_0 ?_
  refine j_istore_n X [(1, .int 0), (0, .ref (ad 12))] rfl (by decide) rfl dX0_setFree_1 ?_
  refine j_iconst X (v := 0) (by decide) dX0_setFree_2 ?_
  refine j_istore_n X [(2, .int 0), (1, .int 0), (0, .ref (ad 12))] rfl (by decide) rfl dX0_setFree_3 ?_
  refine j_iload_n X 0 rfl rfl dX0_setFree_4 ?_
  refine j_aload_n X 2 rfl rfl dX0_setFree_5 ?_
  refine j_get X (by decide) (wE_0 _ rfl) rfl awF0 3 (by decide) aw_155 rfl (v := .int (M 12 3)) rfl dX0_setFree_6 ?_
  refine j_eqi (v := 0) hm ?_
  refine j_icmp_ge X 53 (by decide) dX0_setFree_9 (fun c_1 => ?_) (fun c_1 => False.elim (by revert c_1; decide))
  refine j_iload_n X 1 rfl rfl dX0_setFree_53 ?_
  exact j_iret X hr hlocks dX0_setFree_54 ⟨rfl, rfl⟩
set_option maxRecDepth 100000 in
set_option maxHeartbeats 4000000 in
theorem c_edgesTogether0_12 (l : Launch) (D : va_G) (y : wY) (ad : Nat → Nat) (M : Mem) (hm : M 12 3 = 0) : MI l D y ad yX0_edgesTogether (Cond.code yX0_edgesTogether cX0_edgesTogether 3 (some .int)) 0 M [.ref (ad 12)] (fun r M' => 0 = r ∧ M = M') := by
  refine MI_of (by decide) (Nat.le_of_ble_eq_true rfl) ?_
  intro p e s m args below meth c X hr hlocks
  refine j_lv (lv1 := [(0, .ref (ad 12))]) [0] rfl ?_
  refine j_iconst X (v := 0) (by decide) dX0_edgesTogether_0 ?_
  refine j_istore_n X [(1, .int 0), (0, .ref (ad 12))] rfl (by decide) rfl dX0_edgesTogether_1 ?_
  refine j_iconst X (v := 0) (by decide) dX0_edgesTogether_2 ?_
  refine j_istore_n X [(2, .int 0), (1, .int 0), (0, .ref (ad 12))] rfl (by decide) rfl dX0_edgesTogether_3 ?_
  refine j_iload_n X 0 rfl rfl dX0_edgesTogether_4 ?_
  refine j_aload_n X 2 rfl rfl dX0_edgesTogether_5 ?_
  refine j_get X (by decide) (wE_0 _ rfl) rfl awF0 3 (by decide) aw_155 rfl (v := .int (M 12 3)) rfl dX0_edgesTogether_6 ?_
  refine j_eqi (v := 0) hm ?_
  refine j_icmp_ge X 30 (by decide) dX0_edgesTogether_9 (fun c_1 => ?_) (fun c_1 => False.elim (by revert c_1; decide))
  refine j_iload_n X 1 rfl rfl dX0_edgesTogether_30 ?_
  exact j_iret X hr hlocks dX0_edgesTogether_31 ⟨rfl, rfl⟩
set_option maxRecDepth 100000 in
set_option maxHeartbeats 4000000 in
theorem c_endedMany0_12 (l : Launch) (D : va_G) (y : wY) (ad : Nat → Nat) (M : Mem) (hm : M 12 3 = 0) : MI l D y ad yX0_endedMany (Cond.code yX0_endedMany cX0_endedMany 1 (some .int)) 1 M [.ref (ad 12)] (fun r M' => 0 = r ∧ M = M') := by
  refine MI_of (by decide) (Nat.le_of_ble_eq_true rfl) ?_
  intro p e s m args below meth c X hr hlocks
  refine j_lv (lv1 := [(0, .ref (ad 12))]) [0] rfl ?_
  refine j_aload_n X 0 rfl rfl dX0_endedMany_0 ?_
  refine j_callVI X (nn := 0) (As := []) (st := []) (ci := 0) (by decide) (wE_0 _ rfl) rfl aw_466 aw_467 (c_setEnded0_12 l D y ad M hm) aw_465 aw_468 aw_20 (by decide +kernel) ⟨by decide, by decide⟩ rfl (Nat.le_of_ble_eq_true rfl) ⟨by decide, by decide⟩ dX0_endedMany_1 ?_
  rintro r_ M1_ ⟨rfl, rfl⟩
  refine j_callSI X (nn := 1) (As := [.int 0]) (st := []) aw_470 (c_bitCount0 l D y ad M) aw_469 aw_472 aw_471 (by decide +kernel) ⟨by decide, by decide⟩ rfl (Nat.le_of_ble_eq_true rfl) ⟨by decide, by decide⟩ dX0_endedMany_4 ?_
  rintro r_ M1_ ⟨rfl, rfl⟩
  exact j_iret X hr hlocks dX0_endedMany_7 ⟨rfl, rfl⟩
set_option maxRecDepth 100000 in
set_option maxHeartbeats 4000000 in
theorem c_restDay0_12 (l : Launch) (D : va_G) (y : wY) (ad : Nat → Nat) (M : Mem) (hm : M 12 3 = 0) (b : Int32) : MV l D y ad yX0_restDay (Cond.code yX0_restDay cX0_restDay 2 none) 1 M [.ref (ad 12), .int b] (fun M' => sm (fun b k => b == 12 && (k == 4 || k == 6)) M M') := by
  refine MV_of (by decide) (Nat.le_of_ble_eq_true rfl) ?_
  intro p e s m args below meth c X hr hlocks
  refine j_lv (lv1 := [(0, .ref (ad 12)), (1, .int b)]) [0, 1] rfl ?_
  refine j_aload_n X 0 rfl rfl dX0_restDay_0 ?_
  refine j_iload_n X 1 rfl rfl dX0_restDay_1 ?_
  refine j_callVV X (nn := 1) (As := [.int b]) (st := []) (ci := 0) (by decide) (wE_0 _ rfl) rfl aw_454 aw_455 (c_endOrDull0_12 l D y ad M hm b) aw_453 aw_456 aw_20 (by decide +kernel) ⟨by decide, by decide⟩ rfl (Nat.le_of_ble_eq_true rfl) ⟨by decide, by decide⟩ dX0_restDay_2 ?_
  rintro M1_ rfl
  refine j_aload_n X 0 rfl rfl dX0_restDay_5 ?_
  refine j_aload_n X 0 rfl rfl dX0_restDay_6 ?_
  refine j_get X (by decide) (wE_0 _ rfl) rfl awF0 4 (by decide) aw_124 rfl (v := .int (M 12 4)) rfl dX0_restDay_7 ?_
  refine j_aload_n X 0 rfl rfl dX0_restDay_10 ?_
  refine j_get X (by decide) (wE_0 _ rfl) rfl awF0 5 (by decide) aw_61 rfl (v := .int (M 12 5)) rfl dX0_restDay_11 ?_
  refine j_iadd X dX0_restDay_14 ?_
  refine j_bipush X (v := 10) (by decide) dX0_restDay_15 ?_
  refine j_irem X (by decide) dX0_restDay_17 ?_
  refine j_put X (up M 12 4 (((M 12 4) + (M 12 5)) - ((M 12 4) + (M 12 5)) / 10 * 10)) up_o (by decide) (wE_0 _ rfl) rfl awF0 4 (by decide) (wP_0_4 _ _ rfl) tyX0 tyX0_ok nmX0 rfl (ty := .int) (by decide +kernel) rfl rfl (Nat.le_of_ble_eq_true rfl) aw_124 rfl dX0_restDay_18 ?_
  refine j_aload_n X 0 rfl rfl dX0_restDay_21 ?_
  refine j_dup X rfl dX0_restDay_22 ?_
  refine j_get X (by decide) (wE_0 _ rfl) rfl awF0 6 (by decide) aw_197 rfl (v := .int ((up M 12 4 (((M 12 4) + (M 12 5)) - ((M 12 4) + (M 12 5)) / 10 * 10)) 12 6)) rfl dX0_restDay_23 ?_
  refine j_eqi (v := M 12 6) (by simp [up]) ?_
  refine j_iconst X (v := 1) (by decide) dX0_restDay_26 ?_
  refine j_iadd X dX0_restDay_27 ?_
  refine j_put X (up (up M 12 4 (((M 12 4) + (M 12 5)) - ((M 12 4) + (M 12 5)) / 10 * 10)) 12 6 ((M 12 6) + 1)) up_o (by decide) (wE_0 _ rfl) rfl awF0 6 (by decide) (wP_0_6 _ _ rfl) tyX0 tyX0_ok nmX0 rfl (ty := .int) (by decide +kernel) rfl rfl (Nat.le_of_ble_eq_true rfl) aw_197 rfl dX0_restDay_28 ?_
  exact j_vret X hr hlocks dX0_restDay_31 (sm_up (sm_up sm_rf rfl) rfl)
set_option maxRecDepth 100000 in
set_option maxHeartbeats 4000000 in
theorem c_passDay0_12 (l : Launch) (D : va_G) (y : wY) (ad : Nat → Nat) (M : Mem) (hm : M 12 3 = 0) (b : Int32) : MV l D y ad yX0_passDay (Cond.code yX0_passDay cX0_passDay 2 none) 2 M [.ref (ad 12), .int b] (fun M' => sm (fun b k => b == 12 && (k == 4 || k == 6)) M M') := by
  refine MV_of (by decide) (Nat.le_of_ble_eq_true rfl) ?_
  intro p e s m args below meth c X hr hlocks
  refine j_lv (lv1 := [(0, .ref (ad 12)), (1, .int b)]) [0, 1] rfl ?_
  refine j_aload_n X 0 rfl rfl dX0_passDay_0 ?_
  refine j_callVV X (nn := 0) (As := []) (st := []) (ci := 0) (by decide) (wE_0 _ rfl) rfl aw_443 aw_444 (c_grindArea0_12 l D y ad M hm) aw_442 aw_445 aw_20 (by decide +kernel) ⟨by decide, by decide⟩ rfl (Nat.le_of_ble_eq_true rfl) ⟨by decide, by decide⟩ dX0_passDay_1 ?_
  rintro M1_ rfl
  refine j_aload_n X 0 rfl rfl dX0_passDay_4 ?_
  refine j_iload_n X 1 rfl rfl dX0_passDay_5 ?_
  refine j_callVV X (nn := 1) (As := [.int b]) (st := []) (ci := 0) (by decide) (wE_0 _ rfl) rfl aw_450 aw_451 (c_restDay0_12 l D y ad M hm b) aw_449 aw_452 aw_20 (by decide +kernel) ⟨by decide, by decide⟩ rfl (Nat.le_of_ble_eq_true rfl) ⟨by decide, by decide⟩ dX0_passDay_6 ?_
  rintro M_2 s_1
  exact j_vret X hr hlocks dX0_passDay_9 s_1
set_option maxRecDepth 100000 in
set_option maxHeartbeats 4000000 in
theorem c_grindArea0_49 (l : Launch) (D : va_G) (y : wY) (ad : Nat → Nat) (M : Mem) (hm : M 49 3 = 0) : MV l D y ad yX0_grindArea (Cond.code yX0_grindArea cX0_grindArea 3 none) 0 M [.ref (ad 49)] (fun M' => M = M') := by
  refine MV_of (by decide) (Nat.le_of_ble_eq_true rfl) ?_
  intro p e s m args below meth c X hr hlocks
  refine j_lv (lv1 := [(0, .ref (ad 49))]) [0] rfl ?_
  refine j_iconst X (v := 0) (by decide) dX0_grindArea_0 ?_
  refine j_istore_n X [(1, .int 0), (0, .ref (ad 49))] rfl (by decide) rfl dX0_grindArea_1 ?_
  refine j_iload_n X 0 rfl rfl dX0_grindArea_2 ?_
  refine j_aload_n X 1 rfl rfl dX0_grindArea_3 ?_
  refine j_get X (by decide) (wE_0 _ rfl) rfl awF0 3 (by decide) aw_155 rfl (v := .int (M 49 3)) rfl dX0_grindArea_4 ?_
  refine j_eqi (v := 0) hm ?_
  refine j_icmp_ge X 75 (by decide) dX0_grindArea_7 (fun c_1 => ?_) (fun c_1 => False.elim (by revert c_1; decide))
  exact j_vret X hr hlocks dX0_grindArea_75 rfl
set_option maxRecDepth 100000 in
set_option maxHeartbeats 4000000 in
theorem c_endOrDull0_49 (l : Launch) (D : va_G) (y : wY) (ad : Nat → Nat) (M : Mem) (hm : M 49 3 = 0) (b : Int32) : MV l D y ad yX0_endOrDull (Cond.code yX0_endOrDull cX0_endOrDull 4 none) 0 M [.ref (ad 49), .int b] (fun M' => M = M') := by
  refine MV_of (by decide) (Nat.le_of_ble_eq_true rfl) ?_
  intro p e s m args below meth c X hr hlocks
  refine j_lv (lv1 := [(0, .ref (ad 49)), (1, .int b)]) [0, 1] rfl ?_
  refine j_iconst X (v := 0) (by decide) dX0_endOrDull_0 ?_
  refine j_istore_n X [(2, .int 0), (0, .ref (ad 49)), (1, .int b)] rfl (by decide) rfl dX0_endOrDull_1 ?_
  refine j_iload_n X 0 rfl rfl dX0_endOrDull_2 ?_
  refine j_aload_n X 1 rfl rfl dX0_endOrDull_3 ?_
  refine j_get X (by decide) (wE_0 _ rfl) rfl awF0 3 (by decide) aw_155 rfl (v := .int (M 49 3)) rfl dX0_endOrDull_4 ?_
  refine j_eqi (v := 0) hm ?_
  refine j_icmp_ge X 130 (by decide) dX0_endOrDull_7 (fun c_1 => ?_) (fun c_1 => False.elim (by revert c_1; decide))
  exact j_vret X hr hlocks dX0_endOrDull_130 rfl
set_option maxRecDepth 100000 in
set_option maxHeartbeats 4000000 in
theorem c_setEnded0_49 (l : Launch) (D : va_G) (y : wY) (ad : Nat → Nat) (M : Mem) (hm : M 49 3 = 0) : MI l D y ad yX0_setEnded (Cond.code yX0_setEnded cX0_setEnded 3 (some .int)) 0 M [.ref (ad 49)] (fun r M' => 0 = r ∧ M = M') := by
  refine MI_of (by decide) (Nat.le_of_ble_eq_true rfl) ?_
  intro p e s m args below meth c X hr hlocks
  refine j_lv (lv1 := [(0, .ref (ad 49))]) [0] rfl ?_
  refine j_iconst X (v := 0) (by decide) dX0_setEnded_0 ?_
  refine j_istore_n X [(1, .int 0), (0, .ref (ad 49))] rfl (by decide) rfl dX0_setEnded_1 ?_
  refine j_iconst X (v := 0) (by decide) dX0_setEnded_2 ?_
  refine j_istore_n X [(2, .int 0), (1, .int 0), (0, .ref (ad 49))] rfl (by decide) rfl dX0_setEnded_3 ?_
  refine j_iload_n X 0 rfl rfl dX0_setEnded_4 ?_
  refine j_aload_n X 2 rfl rfl dX0_setEnded_5 ?_
  refine j_get X (by decide) (wE_0 _ rfl) rfl awF0 3 (by decide) aw_155 rfl (v := .int (M 49 3)) rfl dX0_setEnded_6 ?_
  refine j_eqi (v := 0) hm ?_
  refine j_icmp_ge X 40 (by decide) dX0_setEnded_9 (fun c_1 => ?_) (fun c_1 => False.elim (by revert c_1; decide))
  refine j_iload_n X 1 rfl rfl dX0_setEnded_40 ?_
  exact j_iret X hr hlocks dX0_setEnded_41 ⟨rfl, rfl⟩
set_option maxRecDepth 100000 in
set_option maxHeartbeats 4000000 in
theorem c_endedMany0_49 (l : Launch) (D : va_G) (y : wY) (ad : Nat → Nat) (M : Mem) (hm : M 49 3 = 0) : MI l D y ad yX0_endedMany (Cond.code yX0_endedMany cX0_endedMany 1 (some .int)) 1 M [.ref (ad 49)] (fun r M' => 0 = r ∧ M = M') := by
  refine MI_of (by decide) (Nat.le_of_ble_eq_true rfl) ?_
  intro p e s m args below meth c X hr hlocks
  refine j_lv (lv1 := [(0, .ref (ad 49))]) [0] rfl ?_
  refine j_aload_n X 0 rfl rfl dX0_endedMany_0 ?_
  refine j_callVI X (nn := 0) (As := []) (st := []) (ci := 0) (by decide) (wE_0 _ rfl) rfl aw_466 aw_467 (c_setEnded0_49 l D y ad M hm) aw_465 aw_468 aw_20 (by decide +kernel) ⟨by decide, by decide⟩ rfl (Nat.le_of_ble_eq_true rfl) ⟨by decide, by decide⟩ dX0_endedMany_1 ?_
  rintro r_ M1_ ⟨rfl, rfl⟩
  refine j_callSI X (nn := 1) (As := [.int 0]) (st := []) aw_470 (c_bitCount0 l D y ad M) aw_469 aw_472 aw_471 (by decide +kernel) ⟨by decide, by decide⟩ rfl (Nat.le_of_ble_eq_true rfl) ⟨by decide, by decide⟩ dX0_endedMany_4 ?_
  rintro r_ M1_ ⟨rfl, rfl⟩
  exact j_iret X hr hlocks dX0_endedMany_7 ⟨rfl, rfl⟩
set_option maxRecDepth 100000 in
set_option maxHeartbeats 4000000 in
theorem c_restDay0_49 (l : Launch) (D : va_G) (y : wY) (ad : Nat → Nat) (M : Mem) (hm : M 49 3 = 0) (b : Int32) : MV l D y ad yX0_restDay (Cond.code yX0_restDay cX0_restDay 2 none) 1 M [.ref (ad 49), .int b] (fun M' => sm (fun b k => b == 49 && (k == 4 || k == 6)) M M') := by
  refine MV_of (by decide) (Nat.le_of_ble_eq_true rfl) ?_
  intro p e s m args below meth c X hr hlocks
  refine j_lv (lv1 := [(0, .ref (ad 49)), (1, .int b)]) [0, 1] rfl ?_
  refine j_aload_n X 0 rfl rfl dX0_restDay_0 ?_
  refine j_iload_n X 1 rfl rfl dX0_restDay_1 ?_
  refine j_callVV X (nn := 1) (As := [.int b]) (st := []) (ci := 0) (by decide) (wE_0 _ rfl) rfl aw_454 aw_455 (c_endOrDull0_49 l D y ad M hm b) aw_453 aw_456 aw_20 (by decide +kernel) ⟨by decide, by decide⟩ rfl (Nat.le_of_ble_eq_true rfl) ⟨by decide, by decide⟩ dX0_restDay_2 ?_
  rintro M1_ rfl
  refine j_aload_n X 0 rfl rfl dX0_restDay_5 ?_
  refine j_aload_n X 0 rfl rfl dX0_restDay_6 ?_
  refine j_get X (by decide) (wE_0 _ rfl) rfl awF0 4 (by decide) aw_124 rfl (v := .int (M 49 4)) rfl dX0_restDay_7 ?_
  refine j_aload_n X 0 rfl rfl dX0_restDay_10 ?_
  refine j_get X (by decide) (wE_0 _ rfl) rfl awF0 5 (by decide) aw_61 rfl (v := .int (M 49 5)) rfl dX0_restDay_11 ?_
  refine j_iadd X dX0_restDay_14 ?_
  refine j_bipush X (v := 10) (by decide) dX0_restDay_15 ?_
  refine j_irem X (by decide) dX0_restDay_17 ?_
  refine j_put X (up M 49 4 (((M 49 4) + (M 49 5)) - ((M 49 4) + (M 49 5)) / 10 * 10)) up_o (by decide) (wE_0 _ rfl) rfl awF0 4 (by decide) (wP_0_4 _ _ rfl) tyX0 tyX0_ok nmX0 rfl (ty := .int) (by decide +kernel) rfl rfl (Nat.le_of_ble_eq_true rfl) aw_124 rfl dX0_restDay_18 ?_
  refine j_aload_n X 0 rfl rfl dX0_restDay_21 ?_
  refine j_dup X rfl dX0_restDay_22 ?_
  refine j_get X (by decide) (wE_0 _ rfl) rfl awF0 6 (by decide) aw_197 rfl (v := .int ((up M 49 4 (((M 49 4) + (M 49 5)) - ((M 49 4) + (M 49 5)) / 10 * 10)) 49 6)) rfl dX0_restDay_23 ?_
  refine j_eqi (v := M 49 6) (by simp [up]) ?_
  refine j_iconst X (v := 1) (by decide) dX0_restDay_26 ?_
  refine j_iadd X dX0_restDay_27 ?_
  refine j_put X (up (up M 49 4 (((M 49 4) + (M 49 5)) - ((M 49 4) + (M 49 5)) / 10 * 10)) 49 6 ((M 49 6) + 1)) up_o (by decide) (wE_0 _ rfl) rfl awF0 6 (by decide) (wP_0_6 _ _ rfl) tyX0 tyX0_ok nmX0 rfl (ty := .int) (by decide +kernel) rfl rfl (Nat.le_of_ble_eq_true rfl) aw_197 rfl dX0_restDay_28 ?_
  exact j_vret X hr hlocks dX0_restDay_31 (sm_up (sm_up sm_rf rfl) rfl)
set_option maxRecDepth 100000 in
set_option maxHeartbeats 4000000 in
theorem c_passDay0_49 (l : Launch) (D : va_G) (y : wY) (ad : Nat → Nat) (M : Mem) (hm : M 49 3 = 0) (b : Int32) : MV l D y ad yX0_passDay (Cond.code yX0_passDay cX0_passDay 2 none) 2 M [.ref (ad 49), .int b] (fun M' => sm (fun b k => b == 49 && (k == 4 || k == 6)) M M') := by
  refine MV_of (by decide) (Nat.le_of_ble_eq_true rfl) ?_
  intro p e s m args below meth c X hr hlocks
  refine j_lv (lv1 := [(0, .ref (ad 49)), (1, .int b)]) [0, 1] rfl ?_
  refine j_aload_n X 0 rfl rfl dX0_passDay_0 ?_
  refine j_callVV X (nn := 0) (As := []) (st := []) (ci := 0) (by decide) (wE_0 _ rfl) rfl aw_443 aw_444 (c_grindArea0_49 l D y ad M hm) aw_442 aw_445 aw_20 (by decide +kernel) ⟨by decide, by decide⟩ rfl (Nat.le_of_ble_eq_true rfl) ⟨by decide, by decide⟩ dX0_passDay_1 ?_
  rintro M1_ rfl
  refine j_aload_n X 0 rfl rfl dX0_passDay_4 ?_
  refine j_iload_n X 1 rfl rfl dX0_passDay_5 ?_
  refine j_callVV X (nn := 1) (As := [.int b]) (st := []) (ci := 0) (by decide) (wE_0 _ rfl) rfl aw_450 aw_451 (c_restDay0_49 l D y ad M hm b) aw_449 aw_452 aw_20 (by decide +kernel) ⟨by decide, by decide⟩ rfl (Nat.le_of_ble_eq_true rfl) ⟨by decide, by decide⟩ dX0_passDay_6 ?_
  rintro M_2 s_1
  exact j_vret X hr hlocks dX0_passDay_9 s_1
set_option maxRecDepth 100000 in
set_option maxHeartbeats 4000000 in
theorem c_copyFrom0_49 (l : Launch) (D : va_G) (y : wY) (ad : Nat → Nat) (M : Mem) (hm : M 12 3 = 0) : MV l D y ad yX0_copyFrom (Cond.code yX0_copyFrom cX0_copyFrom 3 none) 1 M [.ref (ad 49), .ref (ad 12)] (fun M' => sm (fun b k => b == 49 && (3 ≤ k && k ≤ 8)) M M' ∧ M' 49 3 = M 12 3 ∧ M' 49 7 = M 12 7 ∧ M' 49 8 = M 12 8) := by
  refine MV_of (by decide) (Nat.le_of_ble_eq_true rfl) ?_
  intro p e s m args below meth c X hr hlocks
  refine j_lv (lv1 := [(0, .ref (ad 49)), (1, .ref (ad 12))]) [0, 1] rfl ?_
  refine j_iconst X (v := 0) (by decide) dX0_copyFrom_0 ?_
  refine j_istore_n X [(2, .int 0), (0, .ref (ad 49)), (1, .ref (ad 12))] rfl (by decide) rfl dX0_copyFrom_1 ?_
  refine j_iload_n X 0 rfl rfl dX0_copyFrom_2 ?_
  refine j_aload_n X 2 rfl rfl dX0_copyFrom_3 ?_
  refine j_get X (by decide) (wE_0 _ rfl) rfl awF0 3 (by decide) aw_155 rfl (v := .int (M 12 3)) rfl dX0_copyFrom_4 ?_
  refine j_eqi (v := 0) hm ?_
  refine j_icmp_ge X 31 (by decide) dX0_copyFrom_7 (fun c_1 => ?_) (fun c_1 => False.elim (by revert c_1; decide))
  refine j_aload_n X 1 rfl rfl dX0_copyFrom_31 ?_
  refine j_aload_n X 2 rfl rfl dX0_copyFrom_32 ?_
  refine j_get X (by decide) (wE_0 _ rfl) rfl awF0 3 (by decide) aw_155 rfl (v := .int (M 12 3)) rfl dX0_copyFrom_33 ?_
  refine j_eqi (v := 0) hm ?_
  refine j_put X (up M 49 3 0) up_o (by decide) (wE_0 _ rfl) rfl awF0 3 (by decide) (wP_0_3 _ _ rfl) tyX0 tyX0_ok nmX0 rfl (ty := .int) (by decide +kernel) rfl rfl (Nat.le_of_ble_eq_true rfl) aw_155 rfl dX0_copyFrom_36 ?_
  refine j_aload_n X 1 rfl rfl dX0_copyFrom_39 ?_
  refine j_aload_n X 2 rfl rfl dX0_copyFrom_40 ?_
  refine j_get X (by decide) (wE_0 _ rfl) rfl awF0 4 (by decide) aw_124 rfl (v := .int ((up M 49 3 0) 12 4)) rfl dX0_copyFrom_41 ?_
  refine j_eqi (v := M 12 4) (by simp [up]) ?_
  refine j_put X (up (up M 49 3 0) 49 4 (M 12 4)) up_o (by decide) (wE_0 _ rfl) rfl awF0 4 (by decide) (wP_0_4 _ _ rfl) tyX0 tyX0_ok nmX0 rfl (ty := .int) (by decide +kernel) rfl rfl (Nat.le_of_ble_eq_true rfl) aw_124 rfl dX0_copyFrom_44 ?_
  refine j_aload_n X 1 rfl rfl dX0_copyFrom_47 ?_
  refine j_aload_n X 2 rfl rfl dX0_copyFrom_48 ?_
  refine j_get X (by decide) (wE_0 _ rfl) rfl awF0 5 (by decide) aw_61 rfl (v := .int ((up (up M 49 3 0) 49 4 (M 12 4)) 12 5)) rfl dX0_copyFrom_49 ?_
  refine j_eqi (v := M 12 5) (by simp [up]) ?_
  refine j_put X (up (up (up M 49 3 0) 49 4 (M 12 4)) 49 5 (M 12 5)) up_o (by decide) (wE_0 _ rfl) rfl awF0 5 (by decide) (wP_0_5 _ _ rfl) tyX0 tyX0_ok nmX0 rfl (ty := .int) (by decide +kernel) rfl rfl (Nat.le_of_ble_eq_true rfl) aw_61 rfl dX0_copyFrom_52 ?_
  refine j_aload_n X 1 rfl rfl dX0_copyFrom_55 ?_
  refine j_aload_n X 2 rfl rfl dX0_copyFrom_56 ?_
  refine j_get X (by decide) (wE_0 _ rfl) rfl awF0 6 (by decide) aw_197 rfl (v := .int ((up (up (up M 49 3 0) 49 4 (M 12 4)) 49 5 (M 12 5)) 12 6)) rfl dX0_copyFrom_57 ?_
  refine j_eqi (v := M 12 6) (by simp [up]) ?_
  refine j_put X (up (up (up (up M 49 3 0) 49 4 (M 12 4)) 49 5 (M 12 5)) 49 6 (M 12 6)) up_o (by decide) (wE_0 _ rfl) rfl awF0 6 (by decide) (wP_0_6 _ _ rfl) tyX0 tyX0_ok nmX0 rfl (ty := .int) (by decide +kernel) rfl rfl (Nat.le_of_ble_eq_true rfl) aw_197 rfl dX0_copyFrom_60 ?_
  refine j_aload_n X 1 rfl rfl dX0_copyFrom_63 ?_
  refine j_aload_n X 2 rfl rfl dX0_copyFrom_64 ?_
  refine j_get X (by decide) (wE_0 _ rfl) rfl awF0 7 (by decide) aw_125 rfl (v := .int ((up (up (up (up M 49 3 0) 49 4 (M 12 4)) 49 5 (M 12 5)) 49 6 (M 12 6)) 12 7)) rfl dX0_copyFrom_65 ?_
  refine j_eqi (v := M 12 7) (by simp [up]) ?_
  refine j_put X (up (up (up (up (up M 49 3 0) 49 4 (M 12 4)) 49 5 (M 12 5)) 49 6 (M 12 6)) 49 7 (M 12 7)) up_o (by decide) (wE_0 _ rfl) rfl awF0 7 (by decide) (wP_0_7 _ _ rfl) tyX0 tyX0_ok nmX0 rfl (ty := .int) (by decide +kernel) rfl rfl (Nat.le_of_ble_eq_true rfl) aw_125 rfl dX0_copyFrom_68 ?_
  refine j_aload_n X 1 rfl rfl dX0_copyFrom_71 ?_
  refine j_aload_n X 2 rfl rfl dX0_copyFrom_72 ?_
  refine j_get X (by decide) (wE_0 _ rfl) rfl awF0 8 (by decide) aw_126 rfl (v := .int ((up (up (up (up (up M 49 3 0) 49 4 (M 12 4)) 49 5 (M 12 5)) 49 6 (M 12 6)) 49 7 (M 12 7)) 12 8)) rfl dX0_copyFrom_73 ?_
  refine j_eqi (v := M 12 8) (by simp [up]) ?_
  refine j_put X (up (up (up (up (up (up M 49 3 0) 49 4 (M 12 4)) 49 5 (M 12 5)) 49 6 (M 12 6)) 49 7 (M 12 7)) 49 8 (M 12 8)) up_o (by decide) (wE_0 _ rfl) rfl awF0 8 (by decide) (wP_0_8 _ _ rfl) tyX0 tyX0_ok nmX0 rfl (ty := .int) (by decide +kernel) rfl rfl (Nat.le_of_ble_eq_true rfl) aw_126 rfl dX0_copyFrom_76 ?_
  exact j_vret X hr hlocks dX0_copyFrom_79 ⟨sm_up (sm_up (sm_up (sm_up (sm_up (sm_up sm_rf rfl) rfl) rfl) rfl) rfl) rfl, by simp [up, hm], by simp [up], by simp [up]⟩
set_option maxRecDepth 100000 in
set_option maxHeartbeats 4000000 in
theorem c_copyFrom0_36 (l : Launch) (D : va_G) (y : wY) (ad : Nat → Nat) (M : Mem) (hm : M 12 3 = 0) : MV l D y ad yX0_copyFrom (Cond.code yX0_copyFrom cX0_copyFrom 3 none) 1 M [.ref (ad 36), .ref (ad 12)] (fun M' => sm (fun b k => b == 36 && (3 ≤ k && k ≤ 8)) M M' ∧ M' 36 3 = M 12 3 ∧ M' 36 7 = M 12 7 ∧ M' 36 8 = M 12 8) := by
  refine MV_of (by decide) (Nat.le_of_ble_eq_true rfl) ?_
  intro p e s m args below meth c X hr hlocks
  refine j_lv (lv1 := [(0, .ref (ad 36)), (1, .ref (ad 12))]) [0, 1] rfl ?_
  refine j_iconst X (v := 0) (by decide) dX0_copyFrom_0 ?_
  refine j_istore_n X [(2, .int 0), (0, .ref (ad 36)), (1, .ref (ad 12))] rfl (by decide) rfl dX0_copyFrom_1 ?_
  refine j_iload_n X 0 rfl rfl dX0_copyFrom_2 ?_
  refine j_aload_n X 2 rfl rfl dX0_copyFrom_3 ?_
  refine j_get X (by decide) (wE_0 _ rfl) rfl awF0 3 (by decide) aw_155 rfl (v := .int (M 12 3)) rfl dX0_copyFrom_4 ?_
  refine j_eqi (v := 0) hm ?_
  refine j_icmp_ge X 31 (by decide) dX0_copyFrom_7 (fun c_1 => ?_) (fun c_1 => False.elim (by revert c_1; decide))
  refine j_aload_n X 1 rfl rfl dX0_copyFrom_31 ?_
  refine j_aload_n X 2 rfl rfl dX0_copyFrom_32 ?_
  refine j_get X (by decide) (wE_0 _ rfl) rfl awF0 3 (by decide) aw_155 rfl (v := .int (M 12 3)) rfl dX0_copyFrom_33 ?_
  refine j_eqi (v := 0) hm ?_
  refine j_put X (up M 36 3 0) up_o (by decide) (wE_0 _ rfl) rfl awF0 3 (by decide) (wP_0_3 _ _ rfl) tyX0 tyX0_ok nmX0 rfl (ty := .int) (by decide +kernel) rfl rfl (Nat.le_of_ble_eq_true rfl) aw_155 rfl dX0_copyFrom_36 ?_
  refine j_aload_n X 1 rfl rfl dX0_copyFrom_39 ?_
  refine j_aload_n X 2 rfl rfl dX0_copyFrom_40 ?_
  refine j_get X (by decide) (wE_0 _ rfl) rfl awF0 4 (by decide) aw_124 rfl (v := .int ((up M 36 3 0) 12 4)) rfl dX0_copyFrom_41 ?_
  refine j_eqi (v := M 12 4) (by simp [up]) ?_
  refine j_put X (up (up M 36 3 0) 36 4 (M 12 4)) up_o (by decide) (wE_0 _ rfl) rfl awF0 4 (by decide) (wP_0_4 _ _ rfl) tyX0 tyX0_ok nmX0 rfl (ty := .int) (by decide +kernel) rfl rfl (Nat.le_of_ble_eq_true rfl) aw_124 rfl dX0_copyFrom_44 ?_
  refine j_aload_n X 1 rfl rfl dX0_copyFrom_47 ?_
  refine j_aload_n X 2 rfl rfl dX0_copyFrom_48 ?_
  refine j_get X (by decide) (wE_0 _ rfl) rfl awF0 5 (by decide) aw_61 rfl (v := .int ((up (up M 36 3 0) 36 4 (M 12 4)) 12 5)) rfl dX0_copyFrom_49 ?_
  refine j_eqi (v := M 12 5) (by simp [up]) ?_
  refine j_put X (up (up (up M 36 3 0) 36 4 (M 12 4)) 36 5 (M 12 5)) up_o (by decide) (wE_0 _ rfl) rfl awF0 5 (by decide) (wP_0_5 _ _ rfl) tyX0 tyX0_ok nmX0 rfl (ty := .int) (by decide +kernel) rfl rfl (Nat.le_of_ble_eq_true rfl) aw_61 rfl dX0_copyFrom_52 ?_
  refine j_aload_n X 1 rfl rfl dX0_copyFrom_55 ?_
  refine j_aload_n X 2 rfl rfl dX0_copyFrom_56 ?_
  refine j_get X (by decide) (wE_0 _ rfl) rfl awF0 6 (by decide) aw_197 rfl (v := .int ((up (up (up M 36 3 0) 36 4 (M 12 4)) 36 5 (M 12 5)) 12 6)) rfl dX0_copyFrom_57 ?_
  refine j_eqi (v := M 12 6) (by simp [up]) ?_
  refine j_put X (up (up (up (up M 36 3 0) 36 4 (M 12 4)) 36 5 (M 12 5)) 36 6 (M 12 6)) up_o (by decide) (wE_0 _ rfl) rfl awF0 6 (by decide) (wP_0_6 _ _ rfl) tyX0 tyX0_ok nmX0 rfl (ty := .int) (by decide +kernel) rfl rfl (Nat.le_of_ble_eq_true rfl) aw_197 rfl dX0_copyFrom_60 ?_
  refine j_aload_n X 1 rfl rfl dX0_copyFrom_63 ?_
  refine j_aload_n X 2 rfl rfl dX0_copyFrom_64 ?_
  refine j_get X (by decide) (wE_0 _ rfl) rfl awF0 7 (by decide) aw_125 rfl (v := .int ((up (up (up (up M 36 3 0) 36 4 (M 12 4)) 36 5 (M 12 5)) 36 6 (M 12 6)) 12 7)) rfl dX0_copyFrom_65 ?_
  refine j_eqi (v := M 12 7) (by simp [up]) ?_
  refine j_put X (up (up (up (up (up M 36 3 0) 36 4 (M 12 4)) 36 5 (M 12 5)) 36 6 (M 12 6)) 36 7 (M 12 7)) up_o (by decide) (wE_0 _ rfl) rfl awF0 7 (by decide) (wP_0_7 _ _ rfl) tyX0 tyX0_ok nmX0 rfl (ty := .int) (by decide +kernel) rfl rfl (Nat.le_of_ble_eq_true rfl) aw_125 rfl dX0_copyFrom_68 ?_
  refine j_aload_n X 1 rfl rfl dX0_copyFrom_71 ?_
  refine j_aload_n X 2 rfl rfl dX0_copyFrom_72 ?_
  refine j_get X (by decide) (wE_0 _ rfl) rfl awF0 8 (by decide) aw_126 rfl (v := .int ((up (up (up (up (up M 36 3 0) 36 4 (M 12 4)) 36 5 (M 12 5)) 36 6 (M 12 6)) 36 7 (M 12 7)) 12 8)) rfl dX0_copyFrom_73 ?_
  refine j_eqi (v := M 12 8) (by simp [up]) ?_
  refine j_put X (up (up (up (up (up (up M 36 3 0) 36 4 (M 12 4)) 36 5 (M 12 5)) 36 6 (M 12 6)) 36 7 (M 12 7)) 36 8 (M 12 8)) up_o (by decide) (wE_0 _ rfl) rfl awF0 8 (by decide) (wP_0_8 _ _ rfl) tyX0 tyX0_ok nmX0 rfl (ty := .int) (by decide +kernel) rfl rfl (Nat.le_of_ble_eq_true rfl) aw_126 rfl dX0_copyFrom_76 ?_
  exact j_vret X hr hlocks dX0_copyFrom_79 ⟨sm_up (sm_up (sm_up (sm_up (sm_up (sm_up sm_rf rfl) rfl) rfl) rfl) rfl) rfl, by simp [up, hm], by simp [up], by simp [up]⟩
