theorem dX7_isWithin_0 : decode cX7_isWithin 0 = .ok (.iload_n 0, 1) := by decide +kernel
theorem dX7_isWithin_1 : decode cX7_isWithin 1 = .ok (.iload_n 1, 1) := by decide +kernel
theorem dX7_isWithin_2 : decode cX7_isWithin 2 = .ok (.if_icmp .lt 12, 3) := by decide +kernel
theorem dX7_isWithin_14 : decode cX7_isWithin 14 = .ok (.iconst 0, 1) := by decide +kernel
theorem dX7_isWithin_15 : decode cX7_isWithin 15 = .ok (.ireturn, 1) := by decide +kernel
theorem dX7_isWithin_5 : decode cX7_isWithin 5 = .ok (.iload_n 0, 1) := by decide +kernel
theorem dX7_isWithin_6 : decode cX7_isWithin 6 = .ok (.iload_n 2, 1) := by decide +kernel
theorem dX7_isWithin_7 : decode cX7_isWithin 7 = .ok (.if_icmp .gt 7, 3) := by decide +kernel
theorem dX7_isWithin_10 : decode cX7_isWithin 10 = .ok (.iconst 1, 1) := by decide +kernel
theorem dX7_isWithin_11 : decode cX7_isWithin 11 = .ok (.goto 4, 3) := by decide +kernel
theorem dX8_in_0 : decode cX8_in 0 = .ok (.iload_n 0, 1) := by decide +kernel
theorem dX8_in_1 : decode cX8_in 1 = .ok (.iload_n 1, 1) := by decide +kernel
theorem dX8_in_2 : decode cX8_in 2 = .ok (.if_icmp .lt 12, 3) := by decide +kernel
theorem dX8_in_14 : decode cX8_in 14 = .ok (.iconst 0, 1) := by decide +kernel
theorem dX8_in_15 : decode cX8_in 15 = .ok (.ireturn, 1) := by decide +kernel
theorem dX8_in_5 : decode cX8_in 5 = .ok (.iload_n 0, 1) := by decide +kernel
theorem dX8_in_6 : decode cX8_in 6 = .ok (.iload_n 2, 1) := by decide +kernel
theorem dX8_in_7 : decode cX8_in 7 = .ok (.if_icmp .gt 7, 3) := by decide +kernel
theorem dX8_in_10 : decode cX8_in 10 = .ok (.iconst 1, 1) := by decide +kernel
theorem dX8_in_11 : decode cX8_in 11 = .ok (.goto 4, 3) := by decide +kernel
theorem dX7_refuse_0 : decode cX7_refuse 0 = .ok (.aload_n 0, 1) := by decide +kernel
theorem dX7_refuse_1 : decode cX7_refuse 1 = .ok (.getfield 55, 3) := by decide +kernel
theorem dX7_refuse_4 : decode cX7_refuse 4 = .ok (.ldc_w 313, 3) := by decide +kernel
theorem dX7_refuse_7 : decode cX7_refuse 7 = .ok (.iload_n 1, 1) := by decide +kernel
theorem dX7_refuse_8 : decode cX7_refuse 8 = .ok (.isub, 1) := by decide +kernel
theorem dX7_refuse_9 : decode cX7_refuse 9 = .ok (.dup2, 1) := by decide +kernel
theorem dX7_refuse_10 : decode cX7_refuse 10 = .ok (.iaload, 1) := by decide +kernel
theorem dX7_refuse_11 : decode cX7_refuse 11 = .ok (.iconst 1, 1) := by decide +kernel
theorem dX7_refuse_12 : decode cX7_refuse 12 = .ok (.iadd, 1) := by decide +kernel
theorem dX7_refuse_13 : decode cX7_refuse 13 = .ok (.iastore, 1) := by decide +kernel
theorem dX7_refuse_14 : decode cX7_refuse 14 = .ok (.iload_n 1, 1) := by decide +kernel
theorem dX7_refuse_15 : decode cX7_refuse 15 = .ok (.ireturn, 1) := by decide +kernel
theorem dX8_errs_0 : decode cX8_errs 0 = .ok (.aload_n 0, 1) := by decide +kernel
theorem dX8_errs_1 : decode cX8_errs 1 = .ok (.getfield 19, 3) := by decide +kernel
theorem dX8_errs_4 : decode cX8_errs 4 = .ok (.ldc 46, 2) := by decide +kernel
theorem dX8_errs_6 : decode cX8_errs 6 = .ok (.iload_n 1, 1) := by decide +kernel
theorem dX8_errs_7 : decode cX8_errs 7 = .ok (.isub, 1) := by decide +kernel
theorem dX8_errs_8 : decode cX8_errs 8 = .ok (.dup2, 1) := by decide +kernel
theorem dX8_errs_9 : decode cX8_errs 9 = .ok (.iaload, 1) := by decide +kernel
theorem dX8_errs_10 : decode cX8_errs 10 = .ok (.iconst 1, 1) := by decide +kernel
theorem dX8_errs_11 : decode cX8_errs 11 = .ok (.iadd, 1) := by decide +kernel
theorem dX8_errs_12 : decode cX8_errs 12 = .ok (.iastore, 1) := by decide +kernel
theorem dX8_errs_13 : decode cX8_errs 13 = .ok (.iload_n 1, 1) := by decide +kernel
theorem dX8_errs_14 : decode cX8_errs 14 = .ok (.ireturn, 1) := by decide +kernel
theorem dJ6_bitCount_0f7a4_0 : decode cJ6_bitCount_0f7a4 0 = .ok (.iload_n 0, 1) := by decide +kernel
theorem dJ6_bitCount_0f7a4_1 : decode cJ6_bitCount_0f7a4 1 = .ok (.iload_n 0, 1) := by decide +kernel
theorem dJ6_bitCount_0f7a4_2 : decode cJ6_bitCount_0f7a4 2 = .ok (.iconst 1, 1) := by decide +kernel
theorem dJ6_bitCount_0f7a4_3 : decode cJ6_bitCount_0f7a4 3 = .ok (.iushr, 1) := by decide +kernel
theorem dJ6_bitCount_0f7a4_4 : decode cJ6_bitCount_0f7a4 4 = .ok (.ldc_w 265, 3) := by decide +kernel
theorem dJ6_bitCount_0f7a4_7 : decode cJ6_bitCount_0f7a4 7 = .ok (.iand, 1) := by decide +kernel
theorem dJ6_bitCount_0f7a4_8 : decode cJ6_bitCount_0f7a4 8 = .ok (.isub, 1) := by decide +kernel
theorem dJ6_bitCount_0f7a4_9 : decode cJ6_bitCount_0f7a4 9 = .ok (.istore_n 0, 1) := by decide +kernel
theorem dJ6_bitCount_0f7a4_10 : decode cJ6_bitCount_0f7a4 10 = .ok (.iload_n 0, 1) := by decide +kernel
theorem dJ6_bitCount_0f7a4_11 : decode cJ6_bitCount_0f7a4 11 = .ok (.ldc_w 266, 3) := by decide +kernel
theorem dJ6_bitCount_0f7a4_14 : decode cJ6_bitCount_0f7a4 14 = .ok (.iand, 1) := by decide +kernel
theorem dJ6_bitCount_0f7a4_15 : decode cJ6_bitCount_0f7a4 15 = .ok (.iload_n 0, 1) := by decide +kernel
theorem dJ6_bitCount_0f7a4_16 : decode cJ6_bitCount_0f7a4 16 = .ok (.iconst 2, 1) := by decide +kernel
theorem dJ6_bitCount_0f7a4_17 : decode cJ6_bitCount_0f7a4 17 = .ok (.iushr, 1) := by decide +kernel
theorem dJ6_bitCount_0f7a4_18 : decode cJ6_bitCount_0f7a4 18 = .ok (.ldc_w 266, 3) := by decide +kernel
theorem dJ6_bitCount_0f7a4_21 : decode cJ6_bitCount_0f7a4 21 = .ok (.iand, 1) := by decide +kernel
theorem dJ6_bitCount_0f7a4_22 : decode cJ6_bitCount_0f7a4 22 = .ok (.iadd, 1) := by decide +kernel
theorem dJ6_bitCount_0f7a4_23 : decode cJ6_bitCount_0f7a4 23 = .ok (.istore_n 0, 1) := by decide +kernel
theorem dJ6_bitCount_0f7a4_24 : decode cJ6_bitCount_0f7a4 24 = .ok (.iload_n 0, 1) := by decide +kernel
theorem dJ6_bitCount_0f7a4_25 : decode cJ6_bitCount_0f7a4 25 = .ok (.iload_n 0, 1) := by decide +kernel
theorem dJ6_bitCount_0f7a4_26 : decode cJ6_bitCount_0f7a4 26 = .ok (.iconst 4, 1) := by decide +kernel
theorem dJ6_bitCount_0f7a4_27 : decode cJ6_bitCount_0f7a4 27 = .ok (.iushr, 1) := by decide +kernel
theorem dJ6_bitCount_0f7a4_28 : decode cJ6_bitCount_0f7a4 28 = .ok (.iadd, 1) := by decide +kernel
theorem dJ6_bitCount_0f7a4_29 : decode cJ6_bitCount_0f7a4 29 = .ok (.ldc_w 267, 3) := by decide +kernel
theorem dJ6_bitCount_0f7a4_32 : decode cJ6_bitCount_0f7a4 32 = .ok (.iand, 1) := by decide +kernel
theorem dJ6_bitCount_0f7a4_33 : decode cJ6_bitCount_0f7a4 33 = .ok (.istore_n 0, 1) := by decide +kernel
theorem dJ6_bitCount_0f7a4_34 : decode cJ6_bitCount_0f7a4 34 = .ok (.iload_n 0, 1) := by decide +kernel
theorem dJ6_bitCount_0f7a4_35 : decode cJ6_bitCount_0f7a4 35 = .ok (.iload_n 0, 1) := by decide +kernel
theorem dJ6_bitCount_0f7a4_36 : decode cJ6_bitCount_0f7a4 36 = .ok (.bipush 8, 2) := by decide +kernel
theorem dJ6_bitCount_0f7a4_38 : decode cJ6_bitCount_0f7a4 38 = .ok (.iushr, 1) := by decide +kernel
theorem dJ6_bitCount_0f7a4_39 : decode cJ6_bitCount_0f7a4 39 = .ok (.iadd, 1) := by decide +kernel
theorem dJ6_bitCount_0f7a4_40 : decode cJ6_bitCount_0f7a4 40 = .ok (.istore_n 0, 1) := by decide +kernel
theorem dJ6_bitCount_0f7a4_41 : decode cJ6_bitCount_0f7a4 41 = .ok (.iload_n 0, 1) := by decide +kernel
theorem dJ6_bitCount_0f7a4_42 : decode cJ6_bitCount_0f7a4 42 = .ok (.iload_n 0, 1) := by decide +kernel
theorem dJ6_bitCount_0f7a4_43 : decode cJ6_bitCount_0f7a4 43 = .ok (.bipush 16, 2) := by decide +kernel
theorem dJ6_bitCount_0f7a4_45 : decode cJ6_bitCount_0f7a4 45 = .ok (.iushr, 1) := by decide +kernel
theorem dJ6_bitCount_0f7a4_46 : decode cJ6_bitCount_0f7a4 46 = .ok (.iadd, 1) := by decide +kernel
theorem dJ6_bitCount_0f7a4_47 : decode cJ6_bitCount_0f7a4 47 = .ok (.istore_n 0, 1) := by decide +kernel
theorem dJ6_bitCount_0f7a4_48 : decode cJ6_bitCount_0f7a4 48 = .ok (.iload_n 0, 1) := by decide +kernel
theorem dJ6_bitCount_0f7a4_49 : decode cJ6_bitCount_0f7a4 49 = .ok (.bipush 63, 2) := by decide +kernel
theorem dJ6_bitCount_0f7a4_51 : decode cJ6_bitCount_0f7a4 51 = .ok (.iand, 1) := by decide +kernel
theorem dJ6_bitCount_0f7a4_52 : decode cJ6_bitCount_0f7a4 52 = .ok (.ireturn, 1) := by decide +kernel
set_option maxRecDepth 100000 in
set_option maxHeartbeats 4000000 in
theorem c_X7_isWithin (l : Launch) (D : va_G) (y : wY) (ad : Nat → Nat) (M : Mem) (v a b : Int32) (ia ib : Int) (ha : a.toInt = ia) (hb : b.toInt = ib) : MI l D y ad yX7_isWithin (Cond.code yX7_isWithin cX7_isWithin 3 (some .boolean)) 0 M [.int v, .int a, .int b] (fun r M' => (1 = r ∧ M = M' ∧ ia ≤ v.toInt ∧ v.toInt ≤ ib) ∨ (0 = r ∧ M = M' ∧ ¬ (ia ≤ v.toInt ∧ v.toInt ≤ ib))) := by
  refine MI_of (by decide) (Nat.le_of_ble_eq_true rfl) ?_
  intro p e s m args below meth c X hr hlocks
  refine j_lv (lv1 := [(0, .int v), (1, .int a), (2, .int b)]) [0, 1, 2] rfl ?_
  refine j_iload_n X 0 rfl rfl dX7_isWithin_0 ?_
  refine j_iload_n X 1 rfl rfl dX7_isWithin_1 ?_
  refine j_icmp_lt X 14 (by decide) dX7_isWithin_2 (fun c_1 => ?_) (fun c_1 => ?_)
  · have qc_1 := ti_lt (a := v.toInt) (b := a.toInt) rfl rfl c_1
    refine j_iconst X (v := 0) (by decide) dX7_isWithin_14 ?_
    exact j_zret X hr hlocks (Or.inl rfl) dX7_isWithin_15 (Or.inr ⟨rfl, rfl, by omega⟩)
  · have qc_1 := ti_nlt (a := v.toInt) (b := a.toInt) rfl rfl c_1
    refine j_iload_n X 0 rfl rfl dX7_isWithin_5 ?_
    refine j_iload_n X 2 rfl rfl dX7_isWithin_6 ?_
    refine j_icmp_gt X 14 (by decide) dX7_isWithin_7 (fun c_2 => ?_) (fun c_2 => ?_)
    · have qc_2 := ti_lt (a := b.toInt) (b := v.toInt) rfl rfl c_2
      refine j_iconst X (v := 0) (by decide) dX7_isWithin_14 ?_
      exact j_zret X hr hlocks (Or.inl rfl) dX7_isWithin_15 (Or.inr ⟨rfl, rfl, by omega⟩)
    · have qc_2 := ti_nlt (a := b.toInt) (b := v.toInt) rfl rfl c_2
      refine j_iconst X (v := 1) (by decide) dX7_isWithin_10 ?_
      refine j_goto X 15 (by decide) dX7_isWithin_11 ?_
      exact j_zret X hr hlocks (Or.inr rfl) dX7_isWithin_15 (Or.inl ⟨rfl, rfl, by omega⟩)
set_option maxRecDepth 100000 in
set_option maxHeartbeats 4000000 in
theorem c_X8_in (l : Launch) (D : va_G) (y : wY) (ad : Nat → Nat) (M : Mem) (v a b : Int32) (ia ib : Int) (ha : a.toInt = ia) (hb : b.toInt = ib) : MI l D y ad yX8_in (Cond.code yX8_in cX8_in 3 (some .boolean)) 0 M [.int v, .int a, .int b] (fun r M' => (1 = r ∧ M = M' ∧ ia ≤ v.toInt ∧ v.toInt ≤ ib) ∨ (0 = r ∧ M = M' ∧ ¬ (ia ≤ v.toInt ∧ v.toInt ≤ ib))) := by
  refine MI_of (by decide) (Nat.le_of_ble_eq_true rfl) ?_
  intro p e s m args below meth c X hr hlocks
  refine j_lv (lv1 := [(0, .int v), (1, .int a), (2, .int b)]) [0, 1, 2] rfl ?_
  refine j_iload_n X 0 rfl rfl dX8_in_0 ?_
  refine j_iload_n X 1 rfl rfl dX8_in_1 ?_
  refine j_icmp_lt X 14 (by decide) dX8_in_2 (fun c_1 => ?_) (fun c_1 => ?_)
  · have qc_1 := ti_lt (a := v.toInt) (b := a.toInt) rfl rfl c_1
    refine j_iconst X (v := 0) (by decide) dX8_in_14 ?_
    exact j_zret X hr hlocks (Or.inl rfl) dX8_in_15 (Or.inr ⟨rfl, rfl, by omega⟩)
  · have qc_1 := ti_nlt (a := v.toInt) (b := a.toInt) rfl rfl c_1
    refine j_iload_n X 0 rfl rfl dX8_in_5 ?_
    refine j_iload_n X 2 rfl rfl dX8_in_6 ?_
    refine j_icmp_gt X 14 (by decide) dX8_in_7 (fun c_2 => ?_) (fun c_2 => ?_)
    · have qc_2 := ti_lt (a := b.toInt) (b := v.toInt) rfl rfl c_2
      refine j_iconst X (v := 0) (by decide) dX8_in_14 ?_
      exact j_zret X hr hlocks (Or.inl rfl) dX8_in_15 (Or.inr ⟨rfl, rfl, by omega⟩)
    · have qc_2 := ti_nlt (a := b.toInt) (b := v.toInt) rfl rfl c_2
      refine j_iconst X (v := 1) (by decide) dX8_in_10 ?_
      refine j_goto X 15 (by decide) dX8_in_11 ?_
      exact j_zret X hr hlocks (Or.inr rfl) dX8_in_15 (Or.inl ⟨rfl, rfl, by omega⟩)
set_option maxRecDepth 100000 in
set_option maxHeartbeats 4000000 in
theorem c_X7_refuse (l : Launch) (D : va_G) (y : wY) (ad : Nat → Nat) (M : Mem) (v : Int32) (i : Nat) (hv : (-1000000000) - v = nI i) (hi : i < 6) : MI l D y ad yX7_refuse (Cond.code yX7_refuse cX7_refuse 2 (some .int)) 0 M [.ref (ad 0), .int v] (fun r M' => v = r ∧ up M 78 i (M 78 i + 1) = M') := by
  refine MI_of (by decide) (Nat.le_of_ble_eq_true rfl) ?_
  intro p e s m args below meth c X hr hlocks
  refine j_lv (lv1 := [(0, .ref (ad 0)), (1, .int v)]) [0, 1] rfl ?_
  refine j_aload_n X 0 rfl rfl dX7_refuse_0 ?_
  refine j_get X (by decide) (wE_7 _ rfl) rfl awF7 6 (by decide) aw_33 rfl (v := .ref (ad 78)) rfl dX7_refuse_1 ?_
  refine j_ldcw X (v := (-1000000000)) aw_120 dX7_refuse_4 ?_
  refine j_iload_n X 1 rfl rfl dX7_refuse_7 ?_
  refine j_isub X dX7_refuse_8 ?_
  refine j_dup2 X rfl rfl dX7_refuse_9 ?_
  refine j_iald X (by decide) rfl (by rw [hv]; exact vp_in_nI hi (by decide)) dX7_refuse_10 ?_
  refine j_eqi (v := M 78 i) (by rw [hv, nI_clamp (by omega)]) ?_
  refine j_iconst X (v := 1) (by decide) dX7_refuse_11 ?_
  refine j_iadd X dX7_refuse_12 ?_
  refine j_iast X (by decide) rfl (by rw [hv]; exact vp_in_nI hi (by decide)) dX7_refuse_13 ?_
  refine j_eqM (M1 := (up M 78 i ((M 78 i) + 1))) (by rw [hv, nI_clamp (by omega)]) ?_
  refine j_iload_n X 1 rfl rfl dX7_refuse_14 ?_
  exact j_iret X hr hlocks dX7_refuse_15 ⟨rfl, rfl⟩
set_option maxRecDepth 100000 in
set_option maxHeartbeats 4000000 in
theorem c_X8_errs (l : Launch) (D : va_G) (y : wY) (ad : Nat → Nat) (M : Mem) (v : Int32) (i : Nat) (hv : (-1000000000) - v = nI i) (hi : i < 6) : MI l D y ad yX8_errs (Cond.code yX8_errs cX8_errs 2 (some .int)) 0 M [.ref (ad 79), .int v] (fun r M' => v = r ∧ up M 83 i (M 83 i + 1) = M') := by
  refine MI_of (by decide) (Nat.le_of_ble_eq_true rfl) ?_
  intro p e s m args below meth c X hr hlocks
  refine j_lv (lv1 := [(0, .ref (ad 79)), (1, .int v)]) [0, 1] rfl ?_
  refine j_aload_n X 0 rfl rfl dX8_errs_0 ?_
  refine j_get X (by decide) (wE_8 _ rfl) rfl awF8 5 (by decide) aw_95 rfl (v := .ref (ad 83)) rfl dX8_errs_1 ?_
  refine j_ldc X (v := (-1000000000)) aw_147 dX8_errs_4 ?_
  refine j_iload_n X 1 rfl rfl dX8_errs_6 ?_
  refine j_isub X dX8_errs_7 ?_
  refine j_dup2 X rfl rfl dX8_errs_8 ?_
  refine j_iald X (by decide) rfl (by rw [hv]; exact vp_in_nI hi (by decide)) dX8_errs_9 ?_
  refine j_eqi (v := M 83 i) (by rw [hv, nI_clamp (by omega)]) ?_
  refine j_iconst X (v := 1) (by decide) dX8_errs_10 ?_
  refine j_iadd X dX8_errs_11 ?_
  refine j_iast X (by decide) rfl (by rw [hv]; exact vp_in_nI hi (by decide)) dX8_errs_12 ?_
  refine j_eqM (M1 := (up M 83 i ((M 83 i) + 1))) (by rw [hv, nI_clamp (by omega)]) ?_
  refine j_iload_n X 1 rfl rfl dX8_errs_13 ?_
  exact j_iret X hr hlocks dX8_errs_14 ⟨rfl, rfl⟩
set_option maxRecDepth 100000 in
set_option maxHeartbeats 4000000 in
theorem c_bitCount0 (l : Launch) (D : va_G) (y : wY) (ad : Nat → Nat) (M : Mem)  : MI l D y ad yJ6_bitCount_0f7a4 (Cond.code yJ6_bitCount_0f7a4 cJ6_bitCount_0f7a4 1 (some .int)) 0 M [.int 0] (fun r M' => 0 = r ∧ M = M') := by
  refine MI_of (by decide) (Nat.le_of_ble_eq_true rfl) ?_
  intro p e s m args below meth c X hr hlocks
  refine j_lv (lv1 := [(0, .int 0)]) [0] rfl ?_
  refine j_iload_n X 0 rfl rfl dJ6_bitCount_0f7a4_0 ?_
  refine j_iload_n X 0 rfl rfl dJ6_bitCount_0f7a4_1 ?_
  refine j_iconst X (v := 1) (by decide) dJ6_bitCount_0f7a4_2 ?_
  refine j_iushr X dJ6_bitCount_0f7a4_3 ?_
  refine j_eqi (v := 0) (by decide) ?_
  refine j_ldcw X (v := 1431655765) aw_473 dJ6_bitCount_0f7a4_4 ?_
  refine j_iand X dJ6_bitCount_0f7a4_7 ?_
  refine j_eqi (v := 0) (by decide) ?_
  refine j_isub X dJ6_bitCount_0f7a4_8 ?_
  refine j_eqi (v := 0) (by decide) ?_
  refine j_istore_n X [(0, .int 0)] rfl (by decide) rfl dJ6_bitCount_0f7a4_9 ?_
  refine j_iload_n X 0 rfl rfl dJ6_bitCount_0f7a4_10 ?_
  refine j_ldcw X (v := 858993459) aw_474 dJ6_bitCount_0f7a4_11 ?_
  refine j_iand X dJ6_bitCount_0f7a4_14 ?_
  refine j_eqi (v := 0) (by decide) ?_
  refine j_iload_n X 0 rfl rfl dJ6_bitCount_0f7a4_15 ?_
  refine j_iconst X (v := 2) (by decide) dJ6_bitCount_0f7a4_16 ?_
  refine j_iushr X dJ6_bitCount_0f7a4_17 ?_
  refine j_eqi (v := 0) (by decide) ?_
  refine j_ldcw X (v := 858993459) aw_474 dJ6_bitCount_0f7a4_18 ?_
  refine j_iand X dJ6_bitCount_0f7a4_21 ?_
  refine j_eqi (v := 0) (by decide) ?_
  refine j_iadd X dJ6_bitCount_0f7a4_22 ?_
  refine j_eqi (v := 0) (by decide) ?_
  refine j_istore_n X [(0, .int 0)] rfl (by decide) rfl dJ6_bitCount_0f7a4_23 ?_
  refine j_iload_n X 0 rfl rfl dJ6_bitCount_0f7a4_24 ?_
  refine j_iload_n X 0 rfl rfl dJ6_bitCount_0f7a4_25 ?_
  refine j_iconst X (v := 4) (by decide) dJ6_bitCount_0f7a4_26 ?_
  refine j_iushr X dJ6_bitCount_0f7a4_27 ?_
  refine j_eqi (v := 0) (by decide) ?_
  refine j_iadd X dJ6_bitCount_0f7a4_28 ?_
  refine j_eqi (v := 0) (by decide) ?_
  refine j_ldcw X (v := 252645135) aw_475 dJ6_bitCount_0f7a4_29 ?_
  refine j_iand X dJ6_bitCount_0f7a4_32 ?_
  refine j_eqi (v := 0) (by decide) ?_
  refine j_istore_n X [(0, .int 0)] rfl (by decide) rfl dJ6_bitCount_0f7a4_33 ?_
  refine j_iload_n X 0 rfl rfl dJ6_bitCount_0f7a4_34 ?_
  refine j_iload_n X 0 rfl rfl dJ6_bitCount_0f7a4_35 ?_
  refine j_bipush X (v := 8) (by decide) dJ6_bitCount_0f7a4_36 ?_
  refine j_iushr X dJ6_bitCount_0f7a4_38 ?_
  refine j_eqi (v := 0) (by decide) ?_
  refine j_iadd X dJ6_bitCount_0f7a4_39 ?_
  refine j_eqi (v := 0) (by decide) ?_
  refine j_istore_n X [(0, .int 0)] rfl (by decide) rfl dJ6_bitCount_0f7a4_40 ?_
  refine j_iload_n X 0 rfl rfl dJ6_bitCount_0f7a4_41 ?_
  refine j_iload_n X 0 rfl rfl dJ6_bitCount_0f7a4_42 ?_
  refine j_bipush X (v := 16) (by decide) dJ6_bitCount_0f7a4_43 ?_
  refine j_iushr X dJ6_bitCount_0f7a4_45 ?_
  refine j_eqi (v := 0) (by decide) ?_
  refine j_iadd X dJ6_bitCount_0f7a4_46 ?_
  refine j_eqi (v := 0) (by decide) ?_
  refine j_istore_n X [(0, .int 0)] rfl (by decide) rfl dJ6_bitCount_0f7a4_47 ?_
  refine j_iload_n X 0 rfl rfl dJ6_bitCount_0f7a4_48 ?_
  refine j_bipush X (v := 63) (by decide) dJ6_bitCount_0f7a4_49 ?_
  refine j_iand X dJ6_bitCount_0f7a4_51 ?_
  refine j_eqi (v := 0) (by decide) ?_
  exact j_iret X hr hlocks dJ6_bitCount_0f7a4_52 ⟨rfl, rfl⟩
