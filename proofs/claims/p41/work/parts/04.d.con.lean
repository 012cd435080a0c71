theorem dX3_write_0 : decode cX3_write 0 = .ok (.aload_n 0, 1) := dk_42 (by decide +kernel)
theorem dX3_write_1 : decode cX3_write 1 = .ok (.getfield 9, 3) := dk_180 (by decide +kernel)
theorem dX3_write_4 : decode cX3_write 4 = .ok (.iload_n 1, 1) := dk_27 (by decide +kernel)
theorem dX3_write_5 : decode cX3_write 5 = .ok (.aload_n 0, 1) := dk_42 (by decide +kernel)
theorem dX3_write_6 : decode cX3_write 6 = .ok (.getfield 15, 3) := dk_180 (by decide +kernel)
theorem dX3_write_9 : decode cX3_write 9 = .ok (.bipush 8, 2) := dk_16 (by decide +kernel)
theorem dX3_write_11 : decode cX3_write 11 = .ok (.if_icmp .ne 8, 3) := dk_160 (by decide +kernel)
theorem dX3_write_19 : decode cX3_write 19 = .ok (.aload_n 0, 1) := dk_42 (by decide +kernel)
theorem dX3_write_20 : decode cX3_write 20 = .ok (.getfield 15, 3) := dk_180 (by decide +kernel)
theorem dX3_write_23 : decode cX3_write 23 = .ok (.bipush 16, 2) := dk_16 (by decide +kernel)
theorem dX3_write_25 : decode cX3_write 25 = .ok (.if_icmp .ne 8, 3) := dk_160 (by decide +kernel)
theorem dX3_write_33 : decode cX3_write 33 = .ok (.iload_n 2, 1) := dk_28 (by decide +kernel)
theorem dX3_write_34 : decode cX3_write 34 = .ok (.iastore, 1) := dk_79 (by decide +kernel)
theorem dX3_write_35 : decode cX3_write 35 = .ok (.return_, 1) := dk_177 (by decide +kernel)
theorem dX3_write_28 : decode cX3_write 28 = .ok (.iload_n 2, 1) := dk_28 (by decide +kernel)
theorem dX3_write_29 : decode cX3_write 29 = .ok (.i2s, 1) := by decide +kernel
theorem dX3_write_30 : decode cX3_write 30 = .ok (.goto 4, 3) := dk_167 (by decide +kernel)
theorem dX3_write_14 : decode cX3_write 14 = .ok (.iload_n 2, 1) := dk_28 (by decide +kernel)
theorem dX3_write_15 : decode cX3_write 15 = .ok (.i2b, 1) := by decide +kernel
theorem dX3_write_16 : decode cX3_write 16 = .ok (.goto 18, 3) := dk_167 (by decide +kernel)
set_option maxRecDepth 100000 in
set_option maxHeartbeats 8000000 in
theorem x_X3_write (l : Launch) (D : va_G) (y : wY) (ad : Nat → Nat) (x0 : Nat) (i1 : Int32) (i2 : Int32) (hx0 : Cl x0 3) (M : Mem) (K : Mem → Prop) (h : wp_X3_write x0 i1 i2 M K) : MV l D y ad yX3_write (Cond.code yX3_write cX3_write 3 none) 0 M [.ref (ad x0), .int i1, .int i2] K := by
  refine MV_of (by decide) (Nat.le_of_ble_eq_true rfl) ?_
  intro p e s m args below meth c X hr hlocks
  delta wp_X3_write at h
  refine j_lv (lv1 := [(0, .ref (ad x0)), (1, .int i1), (2, .int i2)]) [0, 1, 2] rfl ?_
  refine j_aload_n X 0 rfl rfl dX3_write_0 ?_
  refine j_get X hx0.1 (wE_3 _ hx0.2) rfl awF3 0 (by decide) aw_87 rfl (v := .ref (ad (rf x0 0))) rfl dX3_write_1 ?_
  have hk_1 := kf_3_0 hx0
  refine j_iload_n X 1 rfl rfl dX3_write_4 ?_
  refine j_aload_n X 0 rfl rfl dX3_write_5 ?_
  refine j_get X hx0.1 (wE_3 _ hx0.2) rfl awF3 1 (by decide) aw_644 rfl (v := .int (M x0 1)) rfl dX3_write_6 ?_
  refine j_bipush X (v := 8) (by decide) dX3_write_9 ?_
  refine j_icmp_ne X 19 (by decide) dX3_write_11 (fun q_2 => ?_) (fun q_2 => ?_)
  · replace h := h.1 q_2
    refine j_aload_n X 0 rfl rfl dX3_write_19 ?_
    refine j_get X hx0.1 (wE_3 _ hx0.2) rfl awF3 1 (by decide) aw_644 rfl (v := .int (M x0 1)) rfl dX3_write_20 ?_
    refine j_bipush X (v := 16) (by decide) dX3_write_23 ?_
    refine j_icmp_ne X 33 (by decide) dX3_write_25 (fun q_3 => ?_) (fun q_3 => ?_)
    · replace h := h.1 q_3
      refine j_iload_n X 2 rfl rfl dX3_write_33 ?_
      obtain ⟨hi_4, h⟩ := h
      refine j_iast X hk_1.1 hk_1.2 hi_4 dX3_write_34 ?_
      exact j_vret X hr hlocks dX3_write_35 h
    · replace h := h.2 q_3
      refine j_iload_n X 2 rfl rfl dX3_write_28 ?_
      refine j_i2s X dX3_write_29 ?_
      refine j_goto X 34 (by decide) dX3_write_30 ?_
      obtain ⟨hi_5, h⟩ := h
      refine j_iast X hk_1.1 hk_1.2 hi_5 dX3_write_34 ?_
      exact j_vret X hr hlocks dX3_write_35 h
  · replace h := h.2 q_2
    refine j_iload_n X 2 rfl rfl dX3_write_14 ?_
    refine j_i2b X dX3_write_15 ?_
    refine j_goto X 34 (by decide) dX3_write_16 ?_
    obtain ⟨hi_6, h⟩ := h
    refine j_iast X hk_1.1 hk_1.2 hi_6 dX3_write_34 ?_
    exact j_vret X hr hlocks dX3_write_35 h
theorem dX3_hasNumbers_0 : decode cX3_hasNumbers 0 = .ok (.iload_n 1, 1) := dk_27 (by decide +kernel)
theorem dX3_hasNumbers_1 : decode cX3_hasNumbers 1 = .ok (.ifCond .lt 21, 3) := dk_155 (by decide +kernel)
theorem dX3_hasNumbers_22 : decode cX3_hasNumbers 22 = .ok (.iconst 0, 1) := dk_3 (by decide +kernel)
theorem dX3_hasNumbers_23 : decode cX3_hasNumbers 23 = .ok (.ireturn, 1) := dk_172 (by decide +kernel)
theorem dX3_hasNumbers_4 : decode cX3_hasNumbers 4 = .ok (.iload_n 2, 1) := dk_28 (by decide +kernel)
theorem dX3_hasNumbers_5 : decode cX3_hasNumbers 5 = .ok (.ifCond .lt 17, 3) := dk_155 (by decide +kernel)
theorem dX3_hasNumbers_8 : decode cX3_hasNumbers 8 = .ok (.iload_n 2, 1) := dk_28 (by decide +kernel)
theorem dX3_hasNumbers_9 : decode cX3_hasNumbers 9 = .ok (.aload_n 0, 1) := dk_42 (by decide +kernel)
theorem dX3_hasNumbers_10 : decode cX3_hasNumbers 10 = .ok (.getfield 19, 3) := dk_180 (by decide +kernel)
theorem dX3_hasNumbers_13 : decode cX3_hasNumbers 13 = .ok (.iload_n 1, 1) := dk_27 (by decide +kernel)
theorem dX3_hasNumbers_14 : decode cX3_hasNumbers 14 = .ok (.isub, 1) := dk_100 (by decide +kernel)
theorem dX3_hasNumbers_15 : decode cX3_hasNumbers 15 = .ok (.if_icmp .gt 7, 3) := dk_163 (by decide +kernel)
theorem dX3_hasNumbers_18 : decode cX3_hasNumbers 18 = .ok (.iconst 1, 1) := dk_4 (by decide +kernel)
theorem dX3_hasNumbers_19 : decode cX3_hasNumbers 19 = .ok (.goto 4, 3) := dk_167 (by decide +kernel)
set_option maxRecDepth 100000 in
set_option maxHeartbeats 8000000 in
theorem x_X3_hasNumbers (l : Launch) (D : va_G) (y : wY) (ad : Nat → Nat) (x0 : Nat) (i1 : Int32) (i2 : Int32) (hx0 : Cl x0 3) (M : Mem) (K : Int32 → Mem → Prop) (h : wp_X3_hasNumbers x0 i1 i2 M K) : MI l D y ad yX3_hasNumbers (Cond.code yX3_hasNumbers cX3_hasNumbers 3 (some .boolean)) 0 M [.ref (ad x0), .int i1, .int i2] K := by
  refine MI_of (by decide) (Nat.le_of_ble_eq_true rfl) ?_
  intro p e s m args below meth c X hr hlocks
  delta wp_X3_hasNumbers at h
  refine j_lv (lv1 := [(0, .ref (ad x0)), (1, .int i1), (2, .int i2)]) [0, 1, 2] rfl ?_
  refine j_iload_n X 1 rfl rfl dX3_hasNumbers_0 ?_
  refine j_if_lt X 22 (by decide) dX3_hasNumbers_1 (fun q_1 => ?_) (fun q_1 => ?_)
  · replace h := h.1 q_1
    refine j_iconst X (v := 0) (by decide) dX3_hasNumbers_22 ?_
    exact j_zret X hr hlocks (Or.inl rfl) dX3_hasNumbers_23 h
  · replace h := h.2 q_1
    refine j_iload_n X 2 rfl rfl dX3_hasNumbers_4 ?_
    refine j_if_lt X 22 (by decide) dX3_hasNumbers_5 (fun q_2 => ?_) (fun q_2 => ?_)
    · replace h := h.1 q_2
      refine j_iconst X (v := 0) (by decide) dX3_hasNumbers_22 ?_
      exact j_zret X hr hlocks (Or.inl rfl) dX3_hasNumbers_23 h
    · replace h := h.2 q_2
      refine j_iload_n X 2 rfl rfl dX3_hasNumbers_8 ?_
      refine j_aload_n X 0 rfl rfl dX3_hasNumbers_9 ?_
      refine j_get X hx0.1 (wE_3 _ hx0.2) rfl awF3 2 (by decide) aw_815 rfl (v := .int (M x0 2)) rfl dX3_hasNumbers_10 ?_
      refine j_iload_n X 1 rfl rfl dX3_hasNumbers_13 ?_
      refine j_isub X dX3_hasNumbers_14 ?_
      refine j_icmp_gt X 22 (by decide) dX3_hasNumbers_15 (fun q_3 => ?_) (fun q_3 => ?_)
      · replace h := h.1 q_3
        refine j_iconst X (v := 0) (by decide) dX3_hasNumbers_22 ?_
        exact j_zret X hr hlocks (Or.inl rfl) dX3_hasNumbers_23 h
      · replace h := h.2 q_3
        refine j_iconst X (v := 1) (by decide) dX3_hasNumbers_18 ?_
        refine j_goto X 23 (by decide) dX3_hasNumbers_19 ?_
        exact j_zret X hr hlocks (Or.inr rfl) dX3_hasNumbers_23 h
theorem dX4_copyFrom_0 : decode cX4_copyFrom 0 = .ok (.aload_n 1, 1) := dk_43 (by decide +kernel)
theorem dX4_copyFrom_1 : decode cX4_copyFrom 1 = .ok (.getfield 9, 3) := dk_180 (by decide +kernel)
theorem dX4_copyFrom_4 : decode cX4_copyFrom 4 = .ok (.iconst 0, 1) := dk_3 (by decide +kernel)
theorem dX4_copyFrom_5 : decode cX4_copyFrom 5 = .ok (.aload_n 0, 1) := dk_42 (by decide +kernel)
theorem dX4_copyFrom_6 : decode cX4_copyFrom 6 = .ok (.getfield 9, 3) := dk_180 (by decide +kernel)
theorem dX4_copyFrom_9 : decode cX4_copyFrom 9 = .ok (.iconst 0, 1) := dk_3 (by decide +kernel)
theorem dX4_copyFrom_10 : decode cX4_copyFrom 10 = .ok (.aload_n 1, 1) := dk_43 (by decide +kernel)
theorem dX4_copyFrom_11 : decode cX4_copyFrom 11 = .ok (.getfield 28, 3) := dk_180 (by decide +kernel)
theorem dX4_copyFrom_14 : decode cX4_copyFrom 14 = .ok (.invokestatic 31, 3) := dk_184 (by decide +kernel)
theorem dX4_copyFrom_17 : decode cX4_copyFrom 17 = .ok (.aload_n 1, 1) := dk_43 (by decide +kernel)
theorem dX4_copyFrom_18 : decode cX4_copyFrom 18 = .ok (.getfield 15, 3) := dk_180 (by decide +kernel)
theorem dX4_copyFrom_21 : decode cX4_copyFrom 21 = .ok (.iconst 0, 1) := dk_3 (by decide +kernel)
theorem dX4_copyFrom_22 : decode cX4_copyFrom 22 = .ok (.aload_n 0, 1) := dk_42 (by decide +kernel)
theorem dX4_copyFrom_23 : decode cX4_copyFrom 23 = .ok (.getfield 15, 3) := dk_180 (by decide +kernel)
theorem dX4_copyFrom_26 : decode cX4_copyFrom 26 = .ok (.iconst 0, 1) := dk_3 (by decide +kernel)
theorem dX4_copyFrom_27 : decode cX4_copyFrom 27 = .ok (.aload_n 1, 1) := dk_43 (by decide +kernel)
theorem dX4_copyFrom_28 : decode cX4_copyFrom 28 = .ok (.getfield 28, 3) := dk_180 (by decide +kernel)
theorem dX4_copyFrom_31 : decode cX4_copyFrom 31 = .ok (.invokestatic 31, 3) := dk_184 (by decide +kernel)
theorem dX4_copyFrom_34 : decode cX4_copyFrom 34 = .ok (.aload_n 1, 1) := dk_43 (by decide +kernel)
theorem dX4_copyFrom_35 : decode cX4_copyFrom 35 = .ok (.getfield 18, 3) := dk_180 (by decide +kernel)
theorem dX4_copyFrom_38 : decode cX4_copyFrom 38 = .ok (.iconst 0, 1) := dk_3 (by decide +kernel)
theorem dX4_copyFrom_39 : decode cX4_copyFrom 39 = .ok (.aload_n 0, 1) := dk_42 (by decide +kernel)
theorem dX4_copyFrom_40 : decode cX4_copyFrom 40 = .ok (.getfield 18, 3) := dk_180 (by decide +kernel)
theorem dX4_copyFrom_43 : decode cX4_copyFrom 43 = .ok (.iconst 0, 1) := dk_3 (by decide +kernel)
theorem dX4_copyFrom_44 : decode cX4_copyFrom 44 = .ok (.aload_n 1, 1) := dk_43 (by decide +kernel)
theorem dX4_copyFrom_45 : decode cX4_copyFrom 45 = .ok (.getfield 28, 3) := dk_180 (by decide +kernel)
theorem dX4_copyFrom_48 : decode cX4_copyFrom 48 = .ok (.invokestatic 31, 3) := dk_184 (by decide +kernel)
theorem dX4_copyFrom_51 : decode cX4_copyFrom 51 = .ok (.aload_n 0, 1) := dk_42 (by decide +kernel)
theorem dX4_copyFrom_52 : decode cX4_copyFrom 52 = .ok (.aload_n 1, 1) := dk_43 (by decide +kernel)
theorem dX4_copyFrom_53 : decode cX4_copyFrom 53 = .ok (.getfield 24, 3) := dk_180 (by decide +kernel)
theorem dX4_copyFrom_56 : decode cX4_copyFrom 56 = .ok (.putfield 24, 3) := dk_181 (by decide +kernel)
theorem dX4_copyFrom_59 : decode cX4_copyFrom 59 = .ok (.aload_n 0, 1) := dk_42 (by decide +kernel)
theorem dX4_copyFrom_60 : decode cX4_copyFrom 60 = .ok (.aload_n 1, 1) := dk_43 (by decide +kernel)
theorem dX4_copyFrom_61 : decode cX4_copyFrom 61 = .ok (.getfield 28, 3) := dk_180 (by decide +kernel)
theorem dX4_copyFrom_64 : decode cX4_copyFrom 64 = .ok (.putfield 28, 3) := dk_181 (by decide +kernel)
theorem dX4_copyFrom_67 : decode cX4_copyFrom 67 = .ok (.return_, 1) := dk_177 (by decide +kernel)
set_option maxRecDepth 100000 in
set_option maxHeartbeats 8000000 in
theorem x_X4_copyFrom (l : Launch) (D : va_G) (y : wY) (ad : Nat → Nat) (x0 : Nat) (x1 : Nat) (hx0 : Cl x0 4) (hx1 : Cl x1 4) (M : Mem) (K : Mem → Prop) (h : wp_X4_copyFrom x0 x1 M K) : MV l D y ad yX4_copyFrom (Cond.code yX4_copyFrom cX4_copyFrom 2 none) 1 M [.ref (ad x0), .ref (ad x1)] K := by
  refine MV_of (by decide) (Nat.le_of_ble_eq_true rfl) ?_
  intro p e s m args below meth c X hr hlocks
  delta wp_X4_copyFrom at h
  refine j_lv (lv1 := [(0, .ref (ad x0)), (1, .ref (ad x1))]) [0, 1] rfl ?_
  refine j_aload_n X 1 rfl rfl dX4_copyFrom_0 ?_
  refine j_get X hx1.1 (wE_4 _ hx1.2) rfl awF4 0 (by decide) aw_52 rfl (v := .ref (ad (rf x1 0))) rfl dX4_copyFrom_1 ?_
  have hk_1 := kf_4_0 hx1
  refine j_iconst X (v := 0) (by decide) dX4_copyFrom_4 ?_
  refine j_aload_n X 0 rfl rfl dX4_copyFrom_5 ?_
  refine j_get X hx0.1 (wE_4 _ hx0.2) rfl awF4 0 (by decide) aw_52 rfl (v := .ref (ad (rf x0 0))) rfl dX4_copyFrom_6 ?_
  have hk_2 := kf_4_0 hx0
  refine j_iconst X (v := 0) (by decide) dX4_copyFrom_9 ?_
  refine j_aload_n X 1 rfl rfl dX4_copyFrom_10 ?_
  refine j_get X hx1.1 (wE_4 _ hx1.2) rfl awF4 5 (by decide) aw_73 rfl (v := .int (M x1 5)) rfl dX4_copyFrom_11 ?_
  obtain ⟨g_3, h⟩ := h
  obtain ⟨g_4, h⟩ := h
  obtain ⟨g_5, h⟩ := h
  obtain ⟨g_6, h⟩ := h
  obtain ⟨g_7, h⟩ := h
  refine j_copy X (i := (rf x1 0)) (j := (rf x0 0)) aw_372 aw_320 aw_321 aw_322 hk_1.1 hk_2.1 hk_1.2 hk_2.2 g_3 g_4 g_5 g_6 g_7 (Nat.le_of_ble_eq_true rfl) (Nat.le_of_ble_eq_true rfl) dX4_copyFrom_14 ?_
  refine j_topM (fun Mg_8 eMg_8 => ?_)
  replace h := h Mg_8 eMg_8
  refine j_aload_n X 1 rfl rfl dX4_copyFrom_17 ?_
  refine j_get X hx1.1 (wE_4 _ hx1.2) rfl awF4 1 (by decide) aw_53 rfl (v := .ref (ad (rf x1 1))) rfl dX4_copyFrom_18 ?_
  have hk_9 := kf_4_1 hx1
  refine j_iconst X (v := 0) (by decide) dX4_copyFrom_21 ?_
  refine j_aload_n X 0 rfl rfl dX4_copyFrom_22 ?_
  refine j_get X hx0.1 (wE_4 _ hx0.2) rfl awF4 1 (by decide) aw_53 rfl (v := .ref (ad (rf x0 1))) rfl dX4_copyFrom_23 ?_
  have hk_10 := kf_4_1 hx0
  refine j_iconst X (v := 0) (by decide) dX4_copyFrom_26 ?_
  refine j_aload_n X 1 rfl rfl dX4_copyFrom_27 ?_
  refine j_get X hx1.1 (wE_4 _ hx1.2) rfl awF4 5 (by decide) aw_73 rfl (v := .int (Mg_8 x1 5)) rfl dX4_copyFrom_28 ?_
  obtain ⟨g_11, h⟩ := h
  obtain ⟨g_12, h⟩ := h
  obtain ⟨g_13, h⟩ := h
  obtain ⟨g_14, h⟩ := h
  obtain ⟨g_15, h⟩ := h
  refine j_copy X (i := (rf x1 1)) (j := (rf x0 1)) aw_372 aw_320 aw_321 aw_322 hk_9.1 hk_10.1 hk_9.2 hk_10.2 g_11 g_12 g_13 g_14 g_15 (Nat.le_of_ble_eq_true rfl) (Nat.le_of_ble_eq_true rfl) dX4_copyFrom_31 ?_
  refine j_topM (fun Mg_16 eMg_16 => ?_)
  replace h := h Mg_16 eMg_16
  refine j_aload_n X 1 rfl rfl dX4_copyFrom_34 ?_
  refine j_get X hx1.1 (wE_4 _ hx1.2) rfl awF4 2 (by decide) aw_54 rfl (v := .ref (ad (rf x1 2))) rfl dX4_copyFrom_35 ?_
  have hk_17 := kf_4_2 hx1
  refine j_iconst X (v := 0) (by decide) dX4_copyFrom_38 ?_
  refine j_aload_n X 0 rfl rfl dX4_copyFrom_39 ?_
  refine j_get X hx0.1 (wE_4 _ hx0.2) rfl awF4 2 (by decide) aw_54 rfl (v := .ref (ad (rf x0 2))) rfl dX4_copyFrom_40 ?_
  have hk_18 := kf_4_2 hx0
  refine j_iconst X (v := 0) (by decide) dX4_copyFrom_43 ?_
  refine j_aload_n X 1 rfl rfl dX4_copyFrom_44 ?_
  refine j_get X hx1.1 (wE_4 _ hx1.2) rfl awF4 5 (by decide) aw_73 rfl (v := .int (Mg_16 x1 5)) rfl dX4_copyFrom_45 ?_
  obtain ⟨g_19, h⟩ := h
  obtain ⟨g_20, h⟩ := h
  obtain ⟨g_21, h⟩ := h
  obtain ⟨g_22, h⟩ := h
  obtain ⟨g_23, h⟩ := h
  refine j_copy X (i := (rf x1 2)) (j := (rf x0 2)) aw_372 aw_320 aw_321 aw_322 hk_17.1 hk_18.1 hk_17.2 hk_18.2 g_19 g_20 g_21 g_22 g_23 (Nat.le_of_ble_eq_true rfl) (Nat.le_of_ble_eq_true rfl) dX4_copyFrom_48 ?_
  refine j_topM (fun Mg_24 eMg_24 => ?_)
  replace h := h Mg_24 eMg_24
  refine j_aload_n X 0 rfl rfl dX4_copyFrom_51 ?_
  refine j_aload_n X 1 rfl rfl dX4_copyFrom_52 ?_
  refine j_get X hx1.1 (wE_4 _ hx1.2) rfl awF4 4 (by decide) aw_72 rfl (v := .int (Mg_24 x1 4)) rfl dX4_copyFrom_53 ?_
  refine j_put X (up Mg_24 x0 4 (Mg_24 x1 4)) up_o hx0.1 (wE_4 _ hx0.2) rfl awF4 4 (by decide) (wP_4_4 _ _ hx0.2) tyX4 tyX4_ok nmX4 rfl (ty := .int) (by decide +kernel) rfl rfl (Nat.le_of_ble_eq_true rfl) aw_72 rfl dX4_copyFrom_56 ?_
  refine j_aload_n X 0 rfl rfl dX4_copyFrom_59 ?_
  refine j_aload_n X 1 rfl rfl dX4_copyFrom_60 ?_
  refine j_get X hx1.1 (wE_4 _ hx1.2) rfl awF4 5 (by decide) aw_73 rfl (v := .int ((up Mg_24 x0 4 (Mg_24 x1 4)) x1 5)) rfl dX4_copyFrom_61 ?_
  refine j_put X (up (up Mg_24 x0 4 (Mg_24 x1 4)) x0 5 ((up Mg_24 x0 4 (Mg_24 x1 4)) x1 5)) up_o hx0.1 (wE_4 _ hx0.2) rfl awF4 5 (by decide) (wP_4_5 _ _ hx0.2) tyX4 tyX4_ok nmX4 rfl (ty := .int) (by decide +kernel) rfl rfl (Nat.le_of_ble_eq_true rfl) aw_73 rfl dX4_copyFrom_64 ?_
  exact j_vret X hr hlocks dX4_copyFrom_67 h
theorem dX5_beginWith_0 : decode cX5_beginWith 0 = .ok (.aload_n 0, 1) := dk_42 (by decide +kernel)
theorem dX5_beginWith_1 : decode cX5_beginWith 1 = .ok (.iconst 0, 1) := dk_3 (by decide +kernel)
theorem dX5_beginWith_2 : decode cX5_beginWith 2 = .ok (.putfield 15, 3) := dk_181 (by decide +kernel)
theorem dX5_beginWith_5 : decode cX5_beginWith 5 = .ok (.aload_n 0, 1) := dk_42 (by decide +kernel)
theorem dX5_beginWith_6 : decode cX5_beginWith 6 = .ok (.iload_n 1, 1) := dk_27 (by decide +kernel)
theorem dX5_beginWith_7 : decode cX5_beginWith 7 = .ok (.putfield 19, 3) := dk_181 (by decide +kernel)
theorem dX5_beginWith_10 : decode cX5_beginWith 10 = .ok (.aload_n 0, 1) := dk_42 (by decide +kernel)
theorem dX5_beginWith_11 : decode cX5_beginWith 11 = .ok (.iload_n 2, 1) := dk_28 (by decide +kernel)
theorem dX5_beginWith_12 : decode cX5_beginWith 12 = .ok (.putfield 22, 3) := dk_181 (by decide +kernel)
theorem dX5_beginWith_15 : decode cX5_beginWith 15 = .ok (.aload_n 0, 1) := dk_42 (by decide +kernel)
theorem dX5_beginWith_16 : decode cX5_beginWith 16 = .ok (.iload_n 3, 1) := dk_29 (by decide +kernel)
theorem dX5_beginWith_17 : decode cX5_beginWith 17 = .ok (.putfield 25, 3) := dk_181 (by decide +kernel)
theorem dX5_beginWith_20 : decode cX5_beginWith 20 = .ok (.return_, 1) := dk_177 (by decide +kernel)
set_option maxRecDepth 100000 in
set_option maxHeartbeats 8000000 in
theorem x_X5_beginWith (l : Launch) (D : va_G) (y : wY) (ad : Nat → Nat) (i1 : Int32) (i2 : Int32) (i3 : Int32) (M : Mem) (K : Mem → Prop) (h : wp_X5_beginWith i1 i2 i3 M K) : MV l D y ad yX5_beginWith (Cond.code yX5_beginWith cX5_beginWith 4 none) 0 M [.ref (ad 67), .int i1, .int i2, .int i3] K := by
  refine MV_of (by decide) (Nat.le_of_ble_eq_true rfl) ?_
  intro p e s m args below meth c X hr hlocks
  delta wp_X5_beginWith at h
  refine j_lv (lv1 := [(0, .ref (ad 67)), (1, .int i1), (2, .int i2), (3, .int i3)]) [0, 1, 2, 3] rfl ?_
  refine j_aload_n X 0 rfl rfl dX5_beginWith_0 ?_
  refine j_iconst X (v := 0) (by decide) dX5_beginWith_1 ?_
  refine j_put X (up M 67 1 0) up_o cl_67.1 (wE_5 _ cl_67.2) rfl awF5 1 (by decide) (wP_5_1 _ _ cl_67.2) tyX5 tyX5_ok nmX5 rfl (ty := .int) (by decide +kernel) rfl rfl (Nat.le_of_ble_eq_true rfl) aw_745 rfl dX5_beginWith_2 ?_
  refine j_aload_n X 0 rfl rfl dX5_beginWith_5 ?_
  refine j_iload_n X 1 rfl rfl dX5_beginWith_6 ?_
  refine j_put X (up (up M 67 1 0) 67 2 i1) up_o cl_67.1 (wE_5 _ cl_67.2) rfl awF5 2 (by decide) (wP_5_2 _ _ cl_67.2) tyX5 tyX5_ok nmX5 rfl (ty := .int) (by decide +kernel) rfl rfl (Nat.le_of_ble_eq_true rfl) aw_746 rfl dX5_beginWith_7 ?_
  refine j_aload_n X 0 rfl rfl dX5_beginWith_10 ?_
  refine j_iload_n X 2 rfl rfl dX5_beginWith_11 ?_
  refine j_put X (up (up (up M 67 1 0) 67 2 i1) 67 3 i2) up_o cl_67.1 (wE_5 _ cl_67.2) rfl awF5 3 (by decide) (wP_5_3 _ _ cl_67.2) tyX5 tyX5_ok nmX5 rfl (ty := .int) (by decide +kernel) rfl rfl (Nat.le_of_ble_eq_true rfl) aw_747 rfl dX5_beginWith_12 ?_
  refine j_aload_n X 0 rfl rfl dX5_beginWith_15 ?_
  refine j_iload_n X 3 rfl rfl dX5_beginWith_16 ?_
  refine j_put X (up (up (up (up M 67 1 0) 67 2 i1) 67 3 i2) 67 4 i3) up_o cl_67.1 (wE_5 _ cl_67.2) rfl awF5 4 (by decide) (wP_5_4 _ _ cl_67.2) tyX5 tyX5_ok nmX5 rfl (ty := .int) (by decide +kernel) rfl rfl (Nat.le_of_ble_eq_true rfl) aw_748 rfl dX5_beginWith_17 ?_
  exact j_vret X hr hlocks dX5_beginWith_20 h
theorem dX5_begin_0 : decode cX5_begin 0 = .ok (.aload_n 0, 1) := dk_42 (by decide +kernel)
theorem dX5_begin_1 : decode cX5_begin 1 = .ok (.getfield 15, 3) := dk_180 (by decide +kernel)
theorem dX5_begin_4 : decode cX5_begin 4 = .ok (.bipush 40, 2) := dk_16 (by decide +kernel)
theorem dX5_begin_6 : decode cX5_begin 6 = .ok (.if_icmp .ge 23, 3) := dk_162 (by decide +kernel)
theorem dX5_begin_29 : decode cX5_begin 29 = .ok (.return_, 1) := dk_177 (by decide +kernel)
theorem dX5_begin_9 : decode cX5_begin 9 = .ok (.aload_n 0, 1) := dk_42 (by decide +kernel)
theorem dX5_begin_10 : decode cX5_begin 10 = .ok (.getfield 9, 3) := dk_180 (by decide +kernel)
theorem dX5_begin_13 : decode cX5_begin 13 = .ok (.aload_n 0, 1) := dk_42 (by decide +kernel)
theorem dX5_begin_14 : decode cX5_begin 14 = .ok (.getfield 15, 3) := dk_180 (by decide +kernel)
theorem dX5_begin_17 : decode cX5_begin 17 = .ok (.iload_n 1, 1) := dk_27 (by decide +kernel)
theorem dX5_begin_18 : decode cX5_begin 18 = .ok (.iastore, 1) := dk_79 (by decide +kernel)
theorem dX5_begin_19 : decode cX5_begin 19 = .ok (.aload_n 0, 1) := dk_42 (by decide +kernel)
theorem dX5_begin_20 : decode cX5_begin 20 = .ok (.dup, 1) := dk_89 (by decide +kernel)
theorem dX5_begin_21 : decode cX5_begin 21 = .ok (.getfield 15, 3) := dk_180 (by decide +kernel)
theorem dX5_begin_24 : decode cX5_begin 24 = .ok (.iconst 1, 1) := dk_4 (by decide +kernel)
theorem dX5_begin_25 : decode cX5_begin 25 = .ok (.iadd, 1) := dk_96 (by decide +kernel)
theorem dX5_begin_26 : decode cX5_begin 26 = .ok (.putfield 15, 3) := dk_181 (by decide +kernel)
set_option maxRecDepth 100000 in
set_option maxHeartbeats 8000000 in
theorem x_X5_begin (l : Launch) (D : va_G) (y : wY) (ad : Nat → Nat) (i1 : Int32) (M : Mem) (K : Mem → Prop) (h : wp_X5_begin i1 M K) : MV l D y ad yX5_begin (Cond.code yX5_begin cX5_begin 2 none) 0 M [.ref (ad 67), .int i1] K := by
  refine MV_of (by decide) (Nat.le_of_ble_eq_true rfl) ?_
  intro p e s m args below meth c X hr hlocks
  delta wp_X5_begin at h
  refine j_lv (lv1 := [(0, .ref (ad 67)), (1, .int i1)]) [0, 1] rfl ?_
  refine j_aload_n X 0 rfl rfl dX5_begin_0 ?_
  refine j_get X cl_67.1 (wE_5 _ cl_67.2) rfl awF5 1 (by decide) aw_745 rfl (v := .int (M 67 1)) rfl dX5_begin_1 ?_
  refine j_bipush X (v := 40) (by decide) dX5_begin_4 ?_
  refine j_icmp_ge X 29 (by decide) dX5_begin_6 (fun q_1 => ?_) (fun q_1 => ?_)
  · replace h := h.1 q_1
    exact j_vret X hr hlocks dX5_begin_29 h
  · replace h := h.2 q_1
    refine j_aload_n X 0 rfl rfl dX5_begin_9 ?_
    refine j_get X cl_67.1 (wE_5 _ cl_67.2) rfl awF5 0 (by decide) aw_83 rfl (v := .ref (ad 68)) rfl dX5_begin_10 ?_
    refine j_aload_n X 0 rfl rfl dX5_begin_13 ?_
    refine j_get X cl_67.1 (wE_5 _ cl_67.2) rfl awF5 1 (by decide) aw_745 rfl (v := .int (M 67 1)) rfl dX5_begin_14 ?_
    refine j_iload_n X 1 rfl rfl dX5_begin_17 ?_
    obtain ⟨hi_2, h⟩ := h
    refine j_iast X cl_68.1 cl_68.2 hi_2 dX5_begin_18 ?_
    refine j_aload_n X 0 rfl rfl dX5_begin_19 ?_
    refine j_dup X rfl dX5_begin_20 ?_
    refine j_get X cl_67.1 (wE_5 _ cl_67.2) rfl awF5 1 (by decide) aw_745 rfl (v := .int ((up M 68 (M 67 1).toNatClampNeg i1) 67 1)) rfl dX5_begin_21 ?_
    refine j_iconst X (v := 1) (by decide) dX5_begin_24 ?_
    refine j_iadd X dX5_begin_25 ?_
    refine j_put X (up (up M 68 (M 67 1).toNatClampNeg i1) 67 1 (((up M 68 (M 67 1).toNatClampNeg i1) 67 1) + 1)) up_o cl_67.1 (wE_5 _ cl_67.2) rfl awF5 1 (by decide) (wP_5_1 _ _ cl_67.2) tyX5 tyX5_ok nmX5 rfl (ty := .int) (by decide +kernel) rfl rfl (Nat.le_of_ble_eq_true rfl) aw_745 rfl dX5_begin_26 ?_
    exact j_vret X hr hlocks dX5_begin_29 h
theorem dX5_sayGrinds_0 : decode cX5_sayGrinds 0 = .ok (.iload_n 1, 1) := dk_27 (by decide +kernel)
theorem dX5_sayGrinds_1 : decode cX5_sayGrinds 1 = .ok (.lookupswitch 42 #[(1, 27), (4, 27)], 27) := by decide +kernel
theorem dX5_sayGrinds_28 : decode cX5_sayGrinds 28 = .ok (.aload_n 0, 1) := dk_42 (by decide +kernel)
theorem dX5_sayGrinds_29 : decode cX5_sayGrinds 29 = .ok (.bipush 20, 2) := dk_16 (by decide +kernel)
theorem dX5_sayGrinds_31 : decode cX5_sayGrinds 31 = .ok (.invokevirtual 41, 3) := dk_182 (by decide +kernel)
theorem dX5_sayGrinds_34 : decode cX5_sayGrinds 34 = .ok (.aload_n 0, 1) := dk_42 (by decide +kernel)
theorem dX5_sayGrinds_35 : decode cX5_sayGrinds 35 = .ok (.iconst 0, 1) := dk_3 (by decide +kernel)
theorem dX5_sayGrinds_36 : decode cX5_sayGrinds 36 = .ok (.iload_n 2, 1) := dk_28 (by decide +kernel)
theorem dX5_sayGrinds_37 : decode cX5_sayGrinds 37 = .ok (.invokevirtual 28, 3) := dk_182 (by decide +kernel)
theorem dX5_sayGrinds_40 : decode cX5_sayGrinds 40 = .ok (.iconst 3, 1) := dk_6 (by decide +kernel)
theorem dX5_sayGrinds_41 : decode cX5_sayGrinds 41 = .ok (.imul, 1) := dk_104 (by decide +kernel)
theorem dX5_sayGrinds_42 : decode cX5_sayGrinds 42 = .ok (.ireturn, 1) := dk_172 (by decide +kernel)
theorem dX5_sayGrinds_43 : decode cX5_sayGrinds 43 = .ok (.aload_n 0, 1) := dk_42 (by decide +kernel)
theorem dX5_sayGrinds_44 : decode cX5_sayGrinds 44 = .ok (.bipush 10, 2) := dk_16 (by decide +kernel)
theorem dX5_sayGrinds_46 : decode cX5_sayGrinds 46 = .ok (.invokevirtual 41, 3) := dk_182 (by decide +kernel)
theorem dX5_sayGrinds_49 : decode cX5_sayGrinds 49 = .ok (.iload_n 2, 1) := dk_28 (by decide +kernel)
theorem dX5_sayGrinds_50 : decode cX5_sayGrinds 50 = .ok (.aload_n 0, 1) := dk_42 (by decide +kernel)
theorem dX5_sayGrinds_51 : decode cX5_sayGrinds 51 = .ok (.getfield 22, 3) := dk_180 (by decide +kernel)
theorem dX5_sayGrinds_54 : decode cX5_sayGrinds 54 = .ok (.iadd, 1) := dk_96 (by decide +kernel)
theorem dX5_sayGrinds_55 : decode cX5_sayGrinds 55 = .ok (.ireturn, 1) := dk_172 (by decide +kernel)
set_option maxRecDepth 100000 in
set_option maxHeartbeats 8000000 in
theorem xg_X5_sayGrinds (l : Launch) (D : va_G) (y : wY) (ad : Nat → Nat) : ∀ n : Nat, (∀ (i1 : Int32) (i2 : Int32) (M : Mem) (K : Int32 → Mem → Prop), wp_X5_sayGrinds n i1 i2 M K → MI l D y ad yX5_sayGrinds (Cond.code yX5_sayGrinds cX5_sayGrinds 3 (some .int)) (n + 1) M [.ref (ad 67), .int i1, .int i2] K) := by
  intro n0
  induction n0 with
  | zero => (intros; rename_i h; exact False.elim h)
  | succ n0 ih =>
    intro i1 i2 M K h
    refine MI_of (by decide) (Nat.le_of_ble_eq_true rfl) ?_
    intro p e s m args below meth c X hr hlocks
    replace h : wpb_X5_sayGrinds (wp_X5_sayGrinds n0) i1 i2 M K := h
    delta wpb_X5_sayGrinds at h
    refine j_lv (lv1 := [(0, .ref (ad 67)), (1, .int i1), (2, .int i2)]) [0, 1, 2] rfl ?_
    refine j_iload_n X 1 rfl rfl dX5_sayGrinds_0 ?_
    by_cases w_1 : i1 = 1
    · replace h := h.1 w_1
      refine j_lsw X 28 (by decide) (off := 27) (by rw [w_1]; decide) (by decide) dX5_sayGrinds_1 ?_
      refine j_aload_n X 0 rfl rfl dX5_sayGrinds_28 ?_
      refine j_bipush X (v := 20) (by decide) dX5_sayGrinds_29 ?_
      refine j_callVV X (nn := 1) (As := [.int 20]) (st := []) (ci := 5) cl_67.1 (wE_5 _ cl_67.2) rfl aw_757 aw_758 (x_X5_begin l D y ad 20 _ _ h) aw_756 aw_759 aw_28 (by decide +kernel) ⟨(by show _ + 1 ≤ _ + 1 + _; omega), (by show 8 + (_ + 11) + 60 * _ ≤ 60 * _; omega)⟩ rfl (Nat.le_of_ble_eq_true rfl) ⟨Nat.le_of_ble_eq_true rfl, Nat.le_of_ble_eq_true rfl⟩ dX5_sayGrinds_31 ?_
      intro M2 h
      refine j_aload_n X 0 rfl rfl dX5_sayGrinds_34 ?_
      refine j_iconst X (v := 0) (by decide) dX5_sayGrinds_35 ?_
      refine j_iload_n X 2 rfl rfl dX5_sayGrinds_36 ?_
      refine j_callVI X (nn := 2) (As := [.int 0, .int i2]) (st := []) (ci := 5) cl_67.1 (wE_5 _ cl_67.2) rfl aw_753 aw_754 (ih 0 i2 _ _ h) aw_752 aw_755 aw_28 (by decide +kernel) ⟨(by show _ + 1 ≤ _ + 1 + _; omega), (by show 8 + (_ + 11) + 60 * _ ≤ 60 * _; omega)⟩ rfl (Nat.le_of_ble_eq_true rfl) ⟨Nat.le_of_ble_eq_true rfl, Nat.le_of_ble_eq_true rfl⟩ dX5_sayGrinds_37 ?_
      intro r3 M3 h
      refine j_iconst X (v := 3) (by decide) dX5_sayGrinds_40 ?_
      refine j_imul X dX5_sayGrinds_41 ?_
      exact j_iret X hr hlocks dX5_sayGrinds_42 h
    replace h := h.2 w_1
    by_cases w_4 : i1 = 4
    · replace h := h.1 w_4
      refine j_lsw X 28 (by decide) (off := 27) (by rw [w_4]; decide) (by decide) dX5_sayGrinds_1 ?_
      refine j_aload_n X 0 rfl rfl dX5_sayGrinds_28 ?_
      refine j_bipush X (v := 20) (by decide) dX5_sayGrinds_29 ?_
      refine j_callVV X (nn := 1) (As := [.int 20]) (st := []) (ci := 5) cl_67.1 (wE_5 _ cl_67.2) rfl aw_757 aw_758 (x_X5_begin l D y ad 20 _ _ h) aw_756 aw_759 aw_28 (by decide +kernel) ⟨(by show _ + 1 ≤ _ + 1 + _; omega), (by show 8 + (_ + 11) + 60 * _ ≤ 60 * _; omega)⟩ rfl (Nat.le_of_ble_eq_true rfl) ⟨Nat.le_of_ble_eq_true rfl, Nat.le_of_ble_eq_true rfl⟩ dX5_sayGrinds_31 ?_
      intro M5 h
      refine j_aload_n X 0 rfl rfl dX5_sayGrinds_34 ?_
      refine j_iconst X (v := 0) (by decide) dX5_sayGrinds_35 ?_
      refine j_iload_n X 2 rfl rfl dX5_sayGrinds_36 ?_
      refine j_callVI X (nn := 2) (As := [.int 0, .int i2]) (st := []) (ci := 5) cl_67.1 (wE_5 _ cl_67.2) rfl aw_753 aw_754 (ih 0 i2 _ _ h) aw_752 aw_755 aw_28 (by decide +kernel) ⟨(by show _ + 1 ≤ _ + 1 + _; omega), (by show 8 + (_ + 11) + 60 * _ ≤ 60 * _; omega)⟩ rfl (Nat.le_of_ble_eq_true rfl) ⟨Nat.le_of_ble_eq_true rfl, Nat.le_of_ble_eq_true rfl⟩ dX5_sayGrinds_37 ?_
      intro r6 M6 h
      refine j_iconst X (v := 3) (by decide) dX5_sayGrinds_40 ?_
      refine j_imul X dX5_sayGrinds_41 ?_
      exact j_iret X hr hlocks dX5_sayGrinds_42 h
    replace h := h.2 w_4
    have qw_1 := ti_ne (n := 1) (by decide) w_1
    have qw_4 := ti_ne (n := 4) (by decide) w_4
    refine j_lsw X 43 (by decide) (off := 42) (by simp [Op.lookupswitch.offset, qw_1, Ne.symm qw_1, qw_4, Ne.symm qw_4]) (by decide) dX5_sayGrinds_1 ?_
    refine j_aload_n X 0 rfl rfl dX5_sayGrinds_43 ?_
    refine j_bipush X (v := 10) (by decide) dX5_sayGrinds_44 ?_
    refine j_callVV X (nn := 1) (As := [.int 10]) (st := []) (ci := 5) cl_67.1 (wE_5 _ cl_67.2) rfl aw_757 aw_758 (x_X5_begin l D y ad 10 _ _ h) aw_756 aw_759 aw_28 (by decide +kernel) ⟨(by show _ + 1 ≤ _ + 1 + _; omega), (by show 8 + (_ + 11) + 60 * _ ≤ 60 * _; omega)⟩ rfl (Nat.le_of_ble_eq_true rfl) ⟨Nat.le_of_ble_eq_true rfl, Nat.le_of_ble_eq_true rfl⟩ dX5_sayGrinds_46 ?_
    intro M7 h
    refine j_iload_n X 2 rfl rfl dX5_sayGrinds_49 ?_
    refine j_aload_n X 0 rfl rfl dX5_sayGrinds_50 ?_
    refine j_get X cl_67.1 (wE_5 _ cl_67.2) rfl awF5 3 (by decide) aw_747 rfl (v := .int (M7 67 3)) rfl dX5_sayGrinds_51 ?_
    refine j_iadd X dX5_sayGrinds_54 ?_
    exact j_iret X hr hlocks dX5_sayGrinds_55 h
theorem x_X5_sayGrinds (l : Launch) (D : va_G) (y : wY) (ad : Nat → Nat) (n : Nat) (i1 : Int32) (i2 : Int32) (M : Mem) (K : Int32 → Mem → Prop) (h : wp_X5_sayGrinds n i1 i2 M K) : MI l D y ad yX5_sayGrinds (Cond.code yX5_sayGrinds cX5_sayGrinds 3 (some .int)) (n + 1) M [.ref (ad 67), .int i1, .int i2] K := (xg_X5_sayGrinds l D y ad n) i1 i2 M K h
theorem dX5_saySparks_0 : decode cX5_saySparks 0 = .ok (.iload_n 1, 1) := dk_27 (by decide +kernel)
theorem dX5_saySparks_1 : decode cX5_saySparks 1 = .ok (.lookupswitch 59 #[(3, 27), (6, 41)], 27) := by decide +kernel
theorem dX5_saySparks_28 : decode cX5_saySparks 28 = .ok (.aload_n 0, 1) := dk_42 (by decide +kernel)
theorem dX5_saySparks_29 : decode cX5_saySparks 29 = .ok (.bipush 40, 2) := dk_16 (by decide +kernel)
theorem dX5_saySparks_31 : decode cX5_saySparks 31 = .ok (.invokevirtual 41, 3) := dk_182 (by decide +kernel)
theorem dX5_saySparks_34 : decode cX5_saySparks 34 = .ok (.aload_n 0, 1) := dk_42 (by decide +kernel)
theorem dX5_saySparks_35 : decode cX5_saySparks 35 = .ok (.iconst 0, 1) := dk_3 (by decide +kernel)
theorem dX5_saySparks_36 : decode cX5_saySparks 36 = .ok (.iload_n 2, 1) := dk_28 (by decide +kernel)
theorem dX5_saySparks_37 : decode cX5_saySparks 37 = .ok (.invokevirtual 35, 3) := dk_182 (by decide +kernel)
theorem dX5_saySparks_40 : decode cX5_saySparks 40 = .ok (.ineg, 1) := by decide +kernel
theorem dX5_saySparks_41 : decode cX5_saySparks 41 = .ok (.ireturn, 1) := dk_172 (by decide +kernel)
theorem dX5_saySparks_42 : decode cX5_saySparks 42 = .ok (.aload_n 0, 1) := dk_42 (by decide +kernel)
theorem dX5_saySparks_43 : decode cX5_saySparks 43 = .ok (.bipush 70, 2) := dk_16 (by decide +kernel)
theorem dX5_saySparks_45 : decode cX5_saySparks 45 = .ok (.invokevirtual 41, 3) := dk_182 (by decide +kernel)
theorem dX5_saySparks_48 : decode cX5_saySparks 48 = .ok (.aload_n 0, 1) := dk_42 (by decide +kernel)
theorem dX5_saySparks_49 : decode cX5_saySparks 49 = .ok (.iconst 3, 1) := dk_6 (by decide +kernel)
theorem dX5_saySparks_50 : decode cX5_saySparks 50 = .ok (.iload_n 2, 1) := dk_28 (by decide +kernel)
theorem dX5_saySparks_51 : decode cX5_saySparks 51 = .ok (.invokevirtual 35, 3) := dk_182 (by decide +kernel)
theorem dX5_saySparks_54 : decode cX5_saySparks 54 = .ok (.aload_n 0, 1) := dk_42 (by decide +kernel)
theorem dX5_saySparks_55 : decode cX5_saySparks 55 = .ok (.getfield 22, 3) := dk_180 (by decide +kernel)
theorem dX5_saySparks_58 : decode cX5_saySparks 58 = .ok (.ixor, 1) := dk_130 (by decide +kernel)
theorem dX5_saySparks_59 : decode cX5_saySparks 59 = .ok (.ireturn, 1) := dk_172 (by decide +kernel)
theorem dX5_saySparks_60 : decode cX5_saySparks 60 = .ok (.aload_n 0, 1) := dk_42 (by decide +kernel)
theorem dX5_saySparks_61 : decode cX5_saySparks 61 = .ok (.bipush 12, 2) := dk_16 (by decide +kernel)
theorem dX5_saySparks_63 : decode cX5_saySparks 63 = .ok (.invokevirtual 41, 3) := dk_182 (by decide +kernel)
theorem dX5_saySparks_66 : decode cX5_saySparks 66 = .ok (.iload_n 2, 1) := dk_28 (by decide +kernel)
theorem dX5_saySparks_67 : decode cX5_saySparks 67 = .ok (.aload_n 0, 1) := dk_42 (by decide +kernel)
theorem dX5_saySparks_68 : decode cX5_saySparks 68 = .ok (.getfield 25, 3) := dk_180 (by decide +kernel)
theorem dX5_saySparks_71 : decode cX5_saySparks 71 = .ok (.isub, 1) := dk_100 (by decide +kernel)
theorem dX5_saySparks_72 : decode cX5_saySparks 72 = .ok (.ireturn, 1) := dk_172 (by decide +kernel)
set_option maxRecDepth 100000 in
set_option maxHeartbeats 8000000 in
theorem xg_X5_saySparks (l : Launch) (D : va_G) (y : wY) (ad : Nat → Nat) : ∀ n : Nat, (∀ (i1 : Int32) (i2 : Int32) (M : Mem) (K : Int32 → Mem → Prop), wp_X5_saySparks n i1 i2 M K → MI l D y ad yX5_saySparks (Cond.code yX5_saySparks cX5_saySparks 3 (some .int)) (n + 1) M [.ref (ad 67), .int i1, .int i2] K) := by
  intro n0
  induction n0 with
  | zero => (intros; rename_i h; exact False.elim h)
  | succ n0 ih =>
    intro i1 i2 M K h
    refine MI_of (by decide) (Nat.le_of_ble_eq_true rfl) ?_
    intro p e s m args below meth c X hr hlocks
    replace h : wpb_X5_saySparks (wp_X5_saySparks n0) i1 i2 M K := h
    delta wpb_X5_saySparks at h
    refine j_lv (lv1 := [(0, .ref (ad 67)), (1, .int i1), (2, .int i2)]) [0, 1, 2] rfl ?_
    refine j_iload_n X 1 rfl rfl dX5_saySparks_0 ?_
    by_cases w_1 : i1 = 3
    · replace h := h.1 w_1
      refine j_lsw X 28 (by decide) (off := 27) (by rw [w_1]; decide) (by decide) dX5_saySparks_1 ?_
      refine j_aload_n X 0 rfl rfl dX5_saySparks_28 ?_
      refine j_bipush X (v := 40) (by decide) dX5_saySparks_29 ?_
      refine j_callVV X (nn := 1) (As := [.int 40]) (st := []) (ci := 5) cl_67.1 (wE_5 _ cl_67.2) rfl aw_757 aw_758 (x_X5_begin l D y ad 40 _ _ h) aw_756 aw_759 aw_28 (by decide +kernel) ⟨(by show _ + 1 ≤ _ + 1 + _; omega), (by show 8 + (_ + 11) + 60 * _ ≤ 60 * _; omega)⟩ rfl (Nat.le_of_ble_eq_true rfl) ⟨Nat.le_of_ble_eq_true rfl, Nat.le_of_ble_eq_true rfl⟩ dX5_saySparks_31 ?_
      intro M2 h
      refine j_aload_n X 0 rfl rfl dX5_saySparks_34 ?_
      refine j_iconst X (v := 0) (by decide) dX5_saySparks_35 ?_
      refine j_iload_n X 2 rfl rfl dX5_saySparks_36 ?_
      refine j_callVI X (nn := 2) (As := [.int 0, .int i2]) (st := []) (ci := 5) cl_67.1 (wE_5 _ cl_67.2) rfl aw_765 aw_766 (ih 0 i2 _ _ h) aw_764 aw_767 aw_28 (by decide +kernel) ⟨(by show _ + 1 ≤ _ + 1 + _; omega), (by show 8 + (_ + 11) + 60 * _ ≤ 60 * _; omega)⟩ rfl (Nat.le_of_ble_eq_true rfl) ⟨Nat.le_of_ble_eq_true rfl, Nat.le_of_ble_eq_true rfl⟩ dX5_saySparks_37 ?_
      intro r3 M3 h
      refine j_ineg X dX5_saySparks_40 ?_
      exact j_iret X hr hlocks dX5_saySparks_41 h
    replace h := h.2 w_1
    by_cases w_4 : i1 = 6
    · replace h := h.1 w_4
      refine j_lsw X 42 (by decide) (off := 41) (by rw [w_4]; decide) (by decide) dX5_saySparks_1 ?_
      refine j_aload_n X 0 rfl rfl dX5_saySparks_42 ?_
      refine j_bipush X (v := 70) (by decide) dX5_saySparks_43 ?_
      refine j_callVV X (nn := 1) (As := [.int 70]) (st := []) (ci := 5) cl_67.1 (wE_5 _ cl_67.2) rfl aw_757 aw_758 (x_X5_begin l D y ad 70 _ _ h) aw_756 aw_759 aw_28 (by decide +kernel) ⟨(by show _ + 1 ≤ _ + 1 + _; omega), (by show 8 + (_ + 11) + 60 * _ ≤ 60 * _; omega)⟩ rfl (Nat.le_of_ble_eq_true rfl) ⟨Nat.le_of_ble_eq_true rfl, Nat.le_of_ble_eq_true rfl⟩ dX5_saySparks_45 ?_
      intro M5 h
      refine j_aload_n X 0 rfl rfl dX5_saySparks_48 ?_
      refine j_iconst X (v := 3) (by decide) dX5_saySparks_49 ?_
      refine j_iload_n X 2 rfl rfl dX5_saySparks_50 ?_
      refine j_callVI X (nn := 2) (As := [.int 3, .int i2]) (st := []) (ci := 5) cl_67.1 (wE_5 _ cl_67.2) rfl aw_765 aw_766 (ih 3 i2 _ _ h) aw_764 aw_767 aw_28 (by decide +kernel) ⟨(by show _ + 1 ≤ _ + 1 + _; omega), (by show 8 + (_ + 11) + 60 * _ ≤ 60 * _; omega)⟩ rfl (Nat.le_of_ble_eq_true rfl) ⟨Nat.le_of_ble_eq_true rfl, Nat.le_of_ble_eq_true rfl⟩ dX5_saySparks_51 ?_
      intro r6 M6 h
      refine j_aload_n X 0 rfl rfl dX5_saySparks_54 ?_
      refine j_get X cl_67.1 (wE_5 _ cl_67.2) rfl awF5 3 (by decide) aw_747 rfl (v := .int (M6 67 3)) rfl dX5_saySparks_55 ?_
      refine j_ixor X dX5_saySparks_58 ?_
      exact j_iret X hr hlocks dX5_saySparks_59 h
    replace h := h.2 w_4
    have qw_1 := ti_ne (n := 3) (by decide) w_1
    have qw_4 := ti_ne (n := 6) (by decide) w_4
    refine j_lsw X 60 (by decide) (off := 59) (by simp [Op.lookupswitch.offset, qw_1, Ne.symm qw_1, qw_4, Ne.symm qw_4]) (by decide) dX5_saySparks_1 ?_
    refine j_aload_n X 0 rfl rfl dX5_saySparks_60 ?_
    refine j_bipush X (v := 12) (by decide) dX5_saySparks_61 ?_
    refine j_callVV X (nn := 1) (As := [.int 12]) (st := []) (ci := 5) cl_67.1 (wE_5 _ cl_67.2) rfl aw_757 aw_758 (x_X5_begin l D y ad 12 _ _ h) aw_756 aw_759 aw_28 (by decide +kernel) ⟨(by show _ + 1 ≤ _ + 1 + _; omega), (by show 8 + (_ + 11) + 60 * _ ≤ 60 * _; omega)⟩ rfl (Nat.le_of_ble_eq_true rfl) ⟨Nat.le_of_ble_eq_true rfl, Nat.le_of_ble_eq_true rfl⟩ dX5_saySparks_63 ?_
    intro M7 h
    refine j_iload_n X 2 rfl rfl dX5_saySparks_66 ?_
    refine j_aload_n X 0 rfl rfl dX5_saySparks_67 ?_
    refine j_get X cl_67.1 (wE_5 _ cl_67.2) rfl awF5 4 (by decide) aw_748 rfl (v := .int (M7 67 4)) rfl dX5_saySparks_68 ?_
    refine j_isub X dX5_saySparks_71 ?_
    exact j_iret X hr hlocks dX5_saySparks_72 h
theorem x_X5_saySparks (l : Launch) (D : va_G) (y : wY) (ad : Nat → Nat) (n : Nat) (i1 : Int32) (i2 : Int32) (M : Mem) (K : Int32 → Mem → Prop) (h : wp_X5_saySparks n i1 i2 M K) : MI l D y ad yX5_saySparks (Cond.code yX5_saySparks cX5_saySparks 3 (some .int)) (n + 1) M [.ref (ad 67), .int i1, .int i2] K := (xg_X5_saySparks l D y ad n) i1 i2 M K h
theorem dX5_sayCuts_0 : decode cX5_sayCuts 0 = .ok (.iload_n 1, 1) := dk_27 (by decide +kernel)
theorem dX5_sayCuts_1 : decode cX5_sayCuts 1 = .ok (.lookupswitch 65 #[(2, 27), (5, 50)], 27) := by decide +kernel
theorem dX5_sayCuts_28 : decode cX5_sayCuts 28 = .ok (.aload_n 0, 1) := dk_42 (by decide +kernel)
theorem dX5_sayCuts_29 : decode cX5_sayCuts 29 = .ok (.bipush 30, 2) := dk_16 (by decide +kernel)
theorem dX5_sayCuts_31 : decode cX5_sayCuts 31 = .ok (.invokevirtual 41, 3) := dk_182 (by decide +kernel)
theorem dX5_sayCuts_34 : decode cX5_sayCuts 34 = .ok (.aload_n 0, 1) := dk_42 (by decide +kernel)
theorem dX5_sayCuts_35 : decode cX5_sayCuts 35 = .ok (.iconst 0, 1) := dk_3 (by decide +kernel)
theorem dX5_sayCuts_36 : decode cX5_sayCuts 36 = .ok (.iload_n 2, 1) := dk_28 (by decide +kernel)
theorem dX5_sayCuts_37 : decode cX5_sayCuts 37 = .ok (.invokevirtual 32, 3) := dk_182 (by decide +kernel)
theorem dX5_sayCuts_40 : decode cX5_sayCuts 40 = .ok (.aload_n 0, 1) := dk_42 (by decide +kernel)
theorem dX5_sayCuts_41 : decode cX5_sayCuts 41 = .ok (.aload_n 0, 1) := dk_42 (by decide +kernel)
theorem dX5_sayCuts_42 : decode cX5_sayCuts 42 = .ok (.getfield 19, 3) := dk_180 (by decide +kernel)
theorem dX5_sayCuts_45 : decode cX5_sayCuts 45 = .ok (.iconst 1, 1) := dk_4 (by decide +kernel)
theorem dX5_sayCuts_46 : decode cX5_sayCuts 46 = .ok (.invokevirtual 35, 3) := dk_182 (by decide +kernel)
theorem dX5_sayCuts_49 : decode cX5_sayCuts 49 = .ok (.isub, 1) := dk_100 (by decide +kernel)
theorem dX5_sayCuts_50 : decode cX5_sayCuts 50 = .ok (.ireturn, 1) := dk_172 (by decide +kernel)
theorem dX5_sayCuts_51 : decode cX5_sayCuts 51 = .ok (.aload_n 0, 1) := dk_42 (by decide +kernel)
theorem dX5_sayCuts_52 : decode cX5_sayCuts 52 = .ok (.bipush 60, 2) := dk_16 (by decide +kernel)
theorem dX5_sayCuts_54 : decode cX5_sayCuts 54 = .ok (.invokevirtual 41, 3) := dk_182 (by decide +kernel)
theorem dX5_sayCuts_57 : decode cX5_sayCuts 57 = .ok (.aload_n 0, 1) := dk_42 (by decide +kernel)
theorem dX5_sayCuts_58 : decode cX5_sayCuts 58 = .ok (.iconst 2, 1) := dk_5 (by decide +kernel)
theorem dX5_sayCuts_59 : decode cX5_sayCuts 59 = .ok (.iload_n 2, 1) := dk_28 (by decide +kernel)
theorem dX5_sayCuts_60 : decode cX5_sayCuts 60 = .ok (.iconst 1, 1) := dk_4 (by decide +kernel)
theorem dX5_sayCuts_61 : decode cX5_sayCuts 61 = .ok (.iadd, 1) := dk_96 (by decide +kernel)
theorem dX5_sayCuts_62 : decode cX5_sayCuts 62 = .ok (.invokevirtual 32, 3) := dk_182 (by decide +kernel)
theorem dX5_sayCuts_65 : decode cX5_sayCuts 65 = .ok (.ireturn, 1) := dk_172 (by decide +kernel)
theorem dX5_sayCuts_66 : decode cX5_sayCuts 66 = .ok (.aload_n 0, 1) := dk_42 (by decide +kernel)
theorem dX5_sayCuts_67 : decode cX5_sayCuts 67 = .ok (.bipush 11, 2) := dk_16 (by decide +kernel)
theorem dX5_sayCuts_69 : decode cX5_sayCuts 69 = .ok (.invokevirtual 41, 3) := dk_182 (by decide +kernel)
theorem dX5_sayCuts_72 : decode cX5_sayCuts 72 = .ok (.aload_n 0, 1) := dk_42 (by decide +kernel)
theorem dX5_sayCuts_73 : decode cX5_sayCuts 73 = .ok (.aload_n 0, 1) := dk_42 (by decide +kernel)
theorem dX5_sayCuts_74 : decode cX5_sayCuts 74 = .ok (.getfield 19, 3) := dk_180 (by decide +kernel)
theorem dX5_sayCuts_77 : decode cX5_sayCuts 77 = .ok (.iload_n 2, 1) := dk_28 (by decide +kernel)
theorem dX5_sayCuts_78 : decode cX5_sayCuts 78 = .ok (.invokevirtual 28, 3) := dk_182 (by decide +kernel)
theorem dX5_sayCuts_81 : decode cX5_sayCuts 81 = .ok (.iconst 2, 1) := dk_5 (by decide +kernel)
theorem dX5_sayCuts_82 : decode cX5_sayCuts 82 = .ok (.imul, 1) := dk_104 (by decide +kernel)
theorem dX5_sayCuts_83 : decode cX5_sayCuts 83 = .ok (.ireturn, 1) := dk_172 (by decide +kernel)
set_option maxRecDepth 100000 in
set_option maxHeartbeats 8000000 in
theorem xg_X5_sayCuts (l : Launch) (D : va_G) (y : wY) (ad : Nat → Nat) : ∀ n : Nat, (∀ (i1 : Int32) (i2 : Int32) (M : Mem) (K : Int32 → Mem → Prop), wp_X5_sayCuts n i1 i2 M K → MI l D y ad yX5_sayCuts (Cond.code yX5_sayCuts cX5_sayCuts 3 (some .int)) (n + 10) M [.ref (ad 67), .int i1, .int i2] K) := by
  intro n0
  induction n0 with
  | zero => (intros; rename_i h; exact False.elim h)
  | succ n0 ih =>
    intro i1 i2 M K h
    refine MI_of (by decide) (Nat.le_of_ble_eq_true rfl) ?_
    intro p e s m args below meth c X hr hlocks
    replace h : wpb_X5_sayCuts (wp_X5_sayCuts n0) i1 i2 M K := h
    delta wpb_X5_sayCuts at h
    refine j_lv (lv1 := [(0, .ref (ad 67)), (1, .int i1), (2, .int i2)]) [0, 1, 2] rfl ?_
    refine j_iload_n X 1 rfl rfl dX5_sayCuts_0 ?_
    by_cases w_1 : i1 = 2
    · replace h := h.1 w_1
      refine j_lsw X 28 (by decide) (off := 27) (by rw [w_1]; decide) (by decide) dX5_sayCuts_1 ?_
      refine j_aload_n X 0 rfl rfl dX5_sayCuts_28 ?_
      refine j_bipush X (v := 30) (by decide) dX5_sayCuts_29 ?_
      refine j_callVV X (nn := 1) (As := [.int 30]) (st := []) (ci := 5) cl_67.1 (wE_5 _ cl_67.2) rfl aw_757 aw_758 (x_X5_begin l D y ad 30 _ _ h) aw_756 aw_759 aw_28 (by decide +kernel) ⟨(by show _ + 1 ≤ _ + 1 + _; omega), (by show 8 + (_ + 11) + 60 * _ ≤ 60 * _; omega)⟩ rfl (Nat.le_of_ble_eq_true rfl) ⟨Nat.le_of_ble_eq_true rfl, Nat.le_of_ble_eq_true rfl⟩ dX5_sayCuts_31 ?_
      intro M2 h
      refine j_aload_n X 0 rfl rfl dX5_sayCuts_34 ?_
      refine j_iconst X (v := 0) (by decide) dX5_sayCuts_35 ?_
      refine j_iload_n X 2 rfl rfl dX5_sayCuts_36 ?_
      refine j_callVI X (nn := 2) (As := [.int 0, .int i2]) (st := []) (ci := 5) cl_67.1 (wE_5 _ cl_67.2) rfl aw_761 aw_762 (ih 0 i2 _ _ h) aw_760 aw_763 aw_28 (by decide +kernel) ⟨(by show _ + 1 ≤ _ + 1 + _; omega), (by show 8 + (_ + 11) + 60 * _ ≤ 60 * _; omega)⟩ rfl (Nat.le_of_ble_eq_true rfl) ⟨Nat.le_of_ble_eq_true rfl, Nat.le_of_ble_eq_true rfl⟩ dX5_sayCuts_37 ?_
      intro r3 M3 h
      refine j_aload_n X 0 rfl rfl dX5_sayCuts_40 ?_
      refine j_aload_n X 0 rfl rfl dX5_sayCuts_41 ?_
      refine j_get X cl_67.1 (wE_5 _ cl_67.2) rfl awF5 2 (by decide) aw_746 rfl (v := .int (M3 67 2)) rfl dX5_sayCuts_42 ?_
      refine j_iconst X (v := 1) (by decide) dX5_sayCuts_45 ?_
      refine j_callVI X (nn := 2) (As := [.int (M3 67 2), .int 1]) (st := [.int r3]) (ci := 5) cl_67.1 (wE_5 _ cl_67.2) rfl aw_765 aw_766 (x_X5_saySparks l D y ad 8 (M3 67 2) 1 _ _ h) aw_764 aw_767 aw_28 (by decide +kernel) ⟨(by show _ + 1 ≤ _ + 1 + _; omega), (by show 8 + (_ + 11) + 60 * _ ≤ 60 * _; omega)⟩ rfl (Nat.le_of_ble_eq_true rfl) ⟨Nat.le_of_ble_eq_true rfl, Nat.le_of_ble_eq_true rfl⟩ dX5_sayCuts_46 ?_
      intro r4 M4 h
      refine j_isub X dX5_sayCuts_49 ?_
      exact j_iret X hr hlocks dX5_sayCuts_50 h
    replace h := h.2 w_1
    by_cases w_5 : i1 = 5
    · replace h := h.1 w_5
      refine j_lsw X 51 (by decide) (off := 50) (by rw [w_5]; decide) (by decide) dX5_sayCuts_1 ?_
      refine j_aload_n X 0 rfl rfl dX5_sayCuts_51 ?_
      refine j_bipush X (v := 60) (by decide) dX5_sayCuts_52 ?_
      refine j_callVV X (nn := 1) (As := [.int 60]) (st := []) (ci := 5) cl_67.1 (wE_5 _ cl_67.2) rfl aw_757 aw_758 (x_X5_begin l D y ad 60 _ _ h) aw_756 aw_759 aw_28 (by decide +kernel) ⟨(by show _ + 1 ≤ _ + 1 + _; omega), (by show 8 + (_ + 11) + 60 * _ ≤ 60 * _; omega)⟩ rfl (Nat.le_of_ble_eq_true rfl) ⟨Nat.le_of_ble_eq_true rfl, Nat.le_of_ble_eq_true rfl⟩ dX5_sayCuts_54 ?_
      intro M6 h
      refine j_aload_n X 0 rfl rfl dX5_sayCuts_57 ?_
      refine j_iconst X (v := 2) (by decide) dX5_sayCuts_58 ?_
      refine j_iload_n X 2 rfl rfl dX5_sayCuts_59 ?_
      refine j_iconst X (v := 1) (by decide) dX5_sayCuts_60 ?_
      refine j_iadd X dX5_sayCuts_61 ?_
      refine j_callVI X (nn := 2) (As := [.int 2, .int (i2 + 1)]) (st := []) (ci := 5) cl_67.1 (wE_5 _ cl_67.2) rfl aw_761 aw_762 (ih 2 (i2 + 1) _ _ h) aw_760 aw_763 aw_28 (by decide +kernel) ⟨(by show _ + 1 ≤ _ + 1 + _; omega), (by show 8 + (_ + 11) + 60 * _ ≤ 60 * _; omega)⟩ rfl (Nat.le_of_ble_eq_true rfl) ⟨Nat.le_of_ble_eq_true rfl, Nat.le_of_ble_eq_true rfl⟩ dX5_sayCuts_62 ?_
      intro r7 M7 h
      exact j_iret X hr hlocks dX5_sayCuts_65 h
    replace h := h.2 w_5
    have qw_1 := ti_ne (n := 2) (by decide) w_1
    have qw_5 := ti_ne (n := 5) (by decide) w_5
    refine j_lsw X 66 (by decide) (off := 65) (by simp [Op.lookupswitch.offset, qw_1, Ne.symm qw_1, qw_5, Ne.symm qw_5]) (by decide) dX5_sayCuts_1 ?_
    refine j_aload_n X 0 rfl rfl dX5_sayCuts_66 ?_
    refine j_bipush X (v := 11) (by decide) dX5_sayCuts_67 ?_
    refine j_callVV X (nn := 1) (As := [.int 11]) (st := []) (ci := 5) cl_67.1 (wE_5 _ cl_67.2) rfl aw_757 aw_758 (x_X5_begin l D y ad 11 _ _ h) aw_756 aw_759 aw_28 (by decide +kernel) ⟨(by show _ + 1 ≤ _ + 1 + _; omega), (by show 8 + (_ + 11) + 60 * _ ≤ 60 * _; omega)⟩ rfl (Nat.le_of_ble_eq_true rfl) ⟨Nat.le_of_ble_eq_true rfl, Nat.le_of_ble_eq_true rfl⟩ dX5_sayCuts_69 ?_
    intro M8 h
    refine j_aload_n X 0 rfl rfl dX5_sayCuts_72 ?_
    refine j_aload_n X 0 rfl rfl dX5_sayCuts_73 ?_
    refine j_get X cl_67.1 (wE_5 _ cl_67.2) rfl awF5 2 (by decide) aw_746 rfl (v := .int (M8 67 2)) rfl dX5_sayCuts_74 ?_
    refine j_iload_n X 2 rfl rfl dX5_sayCuts_77 ?_
    refine j_callVI X (nn := 2) (As := [.int (M8 67 2), .int i2]) (st := []) (ci := 5) cl_67.1 (wE_5 _ cl_67.2) rfl aw_753 aw_754 (x_X5_sayGrinds l D y ad 8 (M8 67 2) i2 _ _ h) aw_752 aw_755 aw_28 (by decide +kernel) ⟨(by show _ + 1 ≤ _ + 1 + _; omega), (by show 8 + (_ + 11) + 60 * _ ≤ 60 * _; omega)⟩ rfl (Nat.le_of_ble_eq_true rfl) ⟨Nat.le_of_ble_eq_true rfl, Nat.le_of_ble_eq_true rfl⟩ dX5_sayCuts_78 ?_
    intro r9 M9 h
    refine j_iconst X (v := 2) (by decide) dX5_sayCuts_81 ?_
    refine j_imul X dX5_sayCuts_82 ?_
    exact j_iret X hr hlocks dX5_sayCuts_83 h
theorem x_X5_sayCuts (l : Launch) (D : va_G) (y : wY) (ad : Nat → Nat) (n : Nat) (i1 : Int32) (i2 : Int32) (M : Mem) (K : Int32 → Mem → Prop) (h : wp_X5_sayCuts n i1 i2 M K) : MI l D y ad yX5_sayCuts (Cond.code yX5_sayCuts cX5_sayCuts 3 (some .int)) (n + 10) M [.ref (ad 67), .int i1, .int i2] K := (xg_X5_sayCuts l D y ad n) i1 i2 M K h
theorem dX5_sayTells_0 : decode cX5_sayTells 0 = .ok (.iload_n 1, 1) := dk_27 (by decide +kernel)
theorem dX5_sayTells_1 : decode cX5_sayTells 1 = .ok (.lookupswitch 73 #[(4, 27), (6, 50)], 27) := by decide +kernel
theorem dX5_sayTells_28 : decode cX5_sayTells 28 = .ok (.aload_n 0, 1) := dk_42 (by decide +kernel)
theorem dX5_sayTells_29 : decode cX5_sayTells 29 = .ok (.bipush 50, 2) := dk_16 (by decide +kernel)
theorem dX5_sayTells_31 : decode cX5_sayTells 31 = .ok (.invokevirtual 41, 3) := dk_182 (by decide +kernel)
theorem dX5_sayTells_34 : decode cX5_sayTells 34 = .ok (.aload_n 0, 1) := dk_42 (by decide +kernel)
theorem dX5_sayTells_35 : decode cX5_sayTells 35 = .ok (.iconst 1, 1) := dk_4 (by decide +kernel)
theorem dX5_sayTells_36 : decode cX5_sayTells 36 = .ok (.iload_n 2, 1) := dk_28 (by decide +kernel)
theorem dX5_sayTells_37 : decode cX5_sayTells 37 = .ok (.invokevirtual 38, 3) := dk_182 (by decide +kernel)
theorem dX5_sayTells_40 : decode cX5_sayTells 40 = .ok (.aload_n 0, 1) := dk_42 (by decide +kernel)
theorem dX5_sayTells_41 : decode cX5_sayTells 41 = .ok (.aload_n 0, 1) := dk_42 (by decide +kernel)
theorem dX5_sayTells_42 : decode cX5_sayTells 42 = .ok (.getfield 19, 3) := dk_180 (by decide +kernel)
theorem dX5_sayTells_45 : decode cX5_sayTells 45 = .ok (.iconst 2, 1) := dk_5 (by decide +kernel)
theorem dX5_sayTells_46 : decode cX5_sayTells 46 = .ok (.invokevirtual 28, 3) := dk_182 (by decide +kernel)
theorem dX5_sayTells_49 : decode cX5_sayTells 49 = .ok (.isub, 1) := dk_100 (by decide +kernel)
theorem dX5_sayTells_50 : decode cX5_sayTells 50 = .ok (.ireturn, 1) := dk_172 (by decide +kernel)
theorem dX5_sayTells_51 : decode cX5_sayTells 51 = .ok (.aload_n 0, 1) := dk_42 (by decide +kernel)
theorem dX5_sayTells_52 : decode cX5_sayTells 52 = .ok (.bipush 71, 2) := dk_16 (by decide +kernel)
theorem dX5_sayTells_54 : decode cX5_sayTells 54 = .ok (.invokevirtual 41, 3) := dk_182 (by decide +kernel)
theorem dX5_sayTells_57 : decode cX5_sayTells 57 = .ok (.aload_n 0, 1) := dk_42 (by decide +kernel)
theorem dX5_sayTells_58 : decode cX5_sayTells 58 = .ok (.aload_n 0, 1) := dk_42 (by decide +kernel)
theorem dX5_sayTells_59 : decode cX5_sayTells 59 = .ok (.getfield 19, 3) := dk_180 (by decide +kernel)
theorem dX5_sayTells_62 : decode cX5_sayTells 62 = .ok (.iload_n 2, 1) := dk_28 (by decide +kernel)
theorem dX5_sayTells_63 : decode cX5_sayTells 63 = .ok (.invokevirtual 32, 3) := dk_182 (by decide +kernel)
theorem dX5_sayTells_66 : decode cX5_sayTells 66 = .ok (.aload_n 0, 1) := dk_42 (by decide +kernel)
theorem dX5_sayTells_67 : decode cX5_sayTells 67 = .ok (.iconst 3, 1) := dk_6 (by decide +kernel)
theorem dX5_sayTells_68 : decode cX5_sayTells 68 = .ok (.iload_n 2, 1) := dk_28 (by decide +kernel)
theorem dX5_sayTells_69 : decode cX5_sayTells 69 = .ok (.invokevirtual 38, 3) := dk_182 (by decide +kernel)
theorem dX5_sayTells_72 : decode cX5_sayTells 72 = .ok (.isub, 1) := dk_100 (by decide +kernel)
theorem dX5_sayTells_73 : decode cX5_sayTells 73 = .ok (.ireturn, 1) := dk_172 (by decide +kernel)
theorem dX5_sayTells_74 : decode cX5_sayTells 74 = .ok (.aload_n 0, 1) := dk_42 (by decide +kernel)
theorem dX5_sayTells_75 : decode cX5_sayTells 75 = .ok (.bipush 13, 2) := dk_16 (by decide +kernel)
theorem dX5_sayTells_77 : decode cX5_sayTells 77 = .ok (.invokevirtual 41, 3) := dk_182 (by decide +kernel)
theorem dX5_sayTells_80 : decode cX5_sayTells 80 = .ok (.aload_n 0, 1) := dk_42 (by decide +kernel)
theorem dX5_sayTells_81 : decode cX5_sayTells 81 = .ok (.aload_n 0, 1) := dk_42 (by decide +kernel)
theorem dX5_sayTells_82 : decode cX5_sayTells 82 = .ok (.getfield 19, 3) := dk_180 (by decide +kernel)
theorem dX5_sayTells_85 : decode cX5_sayTells 85 = .ok (.iload_n 2, 1) := dk_28 (by decide +kernel)
theorem dX5_sayTells_86 : decode cX5_sayTells 86 = .ok (.invokevirtual 32, 3) := dk_182 (by decide +kernel)
theorem dX5_sayTells_89 : decode cX5_sayTells 89 = .ok (.aload_n 0, 1) := dk_42 (by decide +kernel)
theorem dX5_sayTells_90 : decode cX5_sayTells 90 = .ok (.aload_n 0, 1) := dk_42 (by decide +kernel)
theorem dX5_sayTells_91 : decode cX5_sayTells 91 = .ok (.getfield 19, 3) := dk_180 (by decide +kernel)
theorem dX5_sayTells_94 : decode cX5_sayTells 94 = .ok (.iload_n 2, 1) := dk_28 (by decide +kernel)
theorem dX5_sayTells_95 : decode cX5_sayTells 95 = .ok (.invokevirtual 35, 3) := dk_182 (by decide +kernel)
theorem dX5_sayTells_98 : decode cX5_sayTells 98 = .ok (.ixor, 1) := dk_130 (by decide +kernel)
theorem dX5_sayTells_99 : decode cX5_sayTells 99 = .ok (.ireturn, 1) := dk_172 (by decide +kernel)
set_option maxRecDepth 100000 in
set_option maxHeartbeats 8000000 in
theorem xg_X5_sayTells (l : Launch) (D : va_G) (y : wY) (ad : Nat → Nat) : ∀ n : Nat, (∀ (i1 : Int32) (i2 : Int32) (M : Mem) (K : Int32 → Mem → Prop), wp_X5_sayTells n i1 i2 M K → MI l D y ad yX5_sayTells (Cond.code yX5_sayTells cX5_sayTells 3 (some .int)) (n + 19) M [.ref (ad 67), .int i1, .int i2] K) := by
  intro n0
  induction n0 with
  | zero => (intros; rename_i h; exact False.elim h)
  | succ n0 ih =>
    intro i1 i2 M K h
    refine MI_of (by decide) (Nat.le_of_ble_eq_true rfl) ?_
    intro p e s m args below meth c X hr hlocks
    replace h : wpb_X5_sayTells (wp_X5_sayTells n0) i1 i2 M K := h
    delta wpb_X5_sayTells at h
    refine j_lv (lv1 := [(0, .ref (ad 67)), (1, .int i1), (2, .int i2)]) [0, 1, 2] rfl ?_
    refine j_iload_n X 1 rfl rfl dX5_sayTells_0 ?_
    by_cases w_1 : i1 = 4
    · replace h := h.1 w_1
      refine j_lsw X 28 (by decide) (off := 27) (by rw [w_1]; decide) (by decide) dX5_sayTells_1 ?_
      refine j_aload_n X 0 rfl rfl dX5_sayTells_28 ?_
      refine j_bipush X (v := 50) (by decide) dX5_sayTells_29 ?_
      refine j_callVV X (nn := 1) (As := [.int 50]) (st := []) (ci := 5) cl_67.1 (wE_5 _ cl_67.2) rfl aw_757 aw_758 (x_X5_begin l D y ad 50 _ _ h) aw_756 aw_759 aw_28 (by decide +kernel) ⟨(by show _ + 1 ≤ _ + 1 + _; omega), (by show 8 + (_ + 11) + 60 * _ ≤ 60 * _; omega)⟩ rfl (Nat.le_of_ble_eq_true rfl) ⟨Nat.le_of_ble_eq_true rfl, Nat.le_of_ble_eq_true rfl⟩ dX5_sayTells_31 ?_
      intro M2 h
      refine j_aload_n X 0 rfl rfl dX5_sayTells_34 ?_
      refine j_iconst X (v := 1) (by decide) dX5_sayTells_35 ?_
      refine j_iload_n X 2 rfl rfl dX5_sayTells_36 ?_
      refine j_callVI X (nn := 2) (As := [.int 1, .int i2]) (st := []) (ci := 5) cl_67.1 (wE_5 _ cl_67.2) rfl aw_769 aw_770 (ih 1 i2 _ _ h) aw_768 aw_771 aw_28 (by decide +kernel) ⟨(by show _ + 1 ≤ _ + 1 + _; omega), (by show 8 + (_ + 11) + 60 * _ ≤ 60 * _; omega)⟩ rfl (Nat.le_of_ble_eq_true rfl) ⟨Nat.le_of_ble_eq_true rfl, Nat.le_of_ble_eq_true rfl⟩ dX5_sayTells_37 ?_
      intro r3 M3 h
      refine j_aload_n X 0 rfl rfl dX5_sayTells_40 ?_
      refine j_aload_n X 0 rfl rfl dX5_sayTells_41 ?_
      refine j_get X cl_67.1 (wE_5 _ cl_67.2) rfl awF5 2 (by decide) aw_746 rfl (v := .int (M3 67 2)) rfl dX5_sayTells_42 ?_
      refine j_iconst X (v := 2) (by decide) dX5_sayTells_45 ?_
      refine j_callVI X (nn := 2) (As := [.int (M3 67 2), .int 2]) (st := [.int r3]) (ci := 5) cl_67.1 (wE_5 _ cl_67.2) rfl aw_753 aw_754 (x_X5_sayGrinds l D y ad 8 (M3 67 2) 2 _ _ h) aw_752 aw_755 aw_28 (by decide +kernel) ⟨(by show _ + 1 ≤ _ + 1 + _; omega), (by show 8 + (_ + 11) + 60 * _ ≤ 60 * _; omega)⟩ rfl (Nat.le_of_ble_eq_true rfl) ⟨Nat.le_of_ble_eq_true rfl, Nat.le_of_ble_eq_true rfl⟩ dX5_sayTells_46 ?_
      intro r4 M4 h
      refine j_isub X dX5_sayTells_49 ?_
      exact j_iret X hr hlocks dX5_sayTells_50 h
    replace h := h.2 w_1
    by_cases w_5 : i1 = 6
    · replace h := h.1 w_5
      refine j_lsw X 51 (by decide) (off := 50) (by rw [w_5]; decide) (by decide) dX5_sayTells_1 ?_
      refine j_aload_n X 0 rfl rfl dX5_sayTells_51 ?_
      refine j_bipush X (v := 71) (by decide) dX5_sayTells_52 ?_
      refine j_callVV X (nn := 1) (As := [.int 71]) (st := []) (ci := 5) cl_67.1 (wE_5 _ cl_67.2) rfl aw_757 aw_758 (x_X5_begin l D y ad 71 _ _ h) aw_756 aw_759 aw_28 (by decide +kernel) ⟨(by show _ + 1 ≤ _ + 1 + _; omega), (by show 8 + (_ + 11) + 60 * _ ≤ 60 * _; omega)⟩ rfl (Nat.le_of_ble_eq_true rfl) ⟨Nat.le_of_ble_eq_true rfl, Nat.le_of_ble_eq_true rfl⟩ dX5_sayTells_54 ?_
      intro M6 h
      refine j_aload_n X 0 rfl rfl dX5_sayTells_57 ?_
      refine j_aload_n X 0 rfl rfl dX5_sayTells_58 ?_
      refine j_get X cl_67.1 (wE_5 _ cl_67.2) rfl awF5 2 (by decide) aw_746 rfl (v := .int (M6 67 2)) rfl dX5_sayTells_59 ?_
      refine j_iload_n X 2 rfl rfl dX5_sayTells_62 ?_
      refine j_callVI X (nn := 2) (As := [.int (M6 67 2), .int i2]) (st := []) (ci := 5) cl_67.1 (wE_5 _ cl_67.2) rfl aw_761 aw_762 (x_X5_sayCuts l D y ad 8 (M6 67 2) i2 _ _ h) aw_760 aw_763 aw_28 (by decide +kernel) ⟨(by show _ + 1 ≤ _ + 1 + _; omega), (by show 8 + (_ + 11) + 60 * _ ≤ 60 * _; omega)⟩ rfl (Nat.le_of_ble_eq_true rfl) ⟨Nat.le_of_ble_eq_true rfl, Nat.le_of_ble_eq_true rfl⟩ dX5_sayTells_63 ?_
      intro r7 M7 h
      refine j_aload_n X 0 rfl rfl dX5_sayTells_66 ?_
      refine j_iconst X (v := 3) (by decide) dX5_sayTells_67 ?_
      refine j_iload_n X 2 rfl rfl dX5_sayTells_68 ?_
      refine j_callVI X (nn := 2) (As := [.int 3, .int i2]) (st := [.int r7]) (ci := 5) cl_67.1 (wE_5 _ cl_67.2) rfl aw_769 aw_770 (ih 3 i2 _ _ h) aw_768 aw_771 aw_28 (by decide +kernel) ⟨(by show _ + 1 ≤ _ + 1 + _; omega), (by show 8 + (_ + 11) + 60 * _ ≤ 60 * _; omega)⟩ rfl (Nat.le_of_ble_eq_true rfl) ⟨Nat.le_of_ble_eq_true rfl, Nat.le_of_ble_eq_true rfl⟩ dX5_sayTells_69 ?_
      intro r8 M8 h
      refine j_isub X dX5_sayTells_72 ?_
      exact j_iret X hr hlocks dX5_sayTells_73 h
    replace h := h.2 w_5
    have qw_1 := ti_ne (n := 4) (by decide) w_1
    have qw_5 := ti_ne (n := 6) (by decide) w_5
    refine j_lsw X 74 (by decide) (off := 73) (by simp [Op.lookupswitch.offset, qw_1, Ne.symm qw_1, qw_5, Ne.symm qw_5]) (by decide) dX5_sayTells_1 ?_
    refine j_aload_n X 0 rfl rfl dX5_sayTells_74 ?_
    refine j_bipush X (v := 13) (by decide) dX5_sayTells_75 ?_
    refine j_callVV X (nn := 1) (As := [.int 13]) (st := []) (ci := 5) cl_67.1 (wE_5 _ cl_67.2) rfl aw_757 aw_758 (x_X5_begin l D y ad 13 _ _ h) aw_756 aw_759 aw_28 (by decide +kernel) ⟨(by show _ + 1 ≤ _ + 1 + _; omega), (by show 8 + (_ + 11) + 60 * _ ≤ 60 * _; omega)⟩ rfl (Nat.le_of_ble_eq_true rfl) ⟨Nat.le_of_ble_eq_true rfl, Nat.le_of_ble_eq_true rfl⟩ dX5_sayTells_77 ?_
    intro M9 h
    refine j_aload_n X 0 rfl rfl dX5_sayTells_80 ?_
    refine j_aload_n X 0 rfl rfl dX5_sayTells_81 ?_
    refine j_get X cl_67.1 (wE_5 _ cl_67.2) rfl awF5 2 (by decide) aw_746 rfl (v := .int (M9 67 2)) rfl dX5_sayTells_82 ?_
    refine j_iload_n X 2 rfl rfl dX5_sayTells_85 ?_
    refine j_callVI X (nn := 2) (As := [.int (M9 67 2), .int i2]) (st := []) (ci := 5) cl_67.1 (wE_5 _ cl_67.2) rfl aw_761 aw_762 (x_X5_sayCuts l D y ad 8 (M9 67 2) i2 _ _ h) aw_760 aw_763 aw_28 (by decide +kernel) ⟨(by show _ + 1 ≤ _ + 1 + _; omega), (by show 8 + (_ + 11) + 60 * _ ≤ 60 * _; omega)⟩ rfl (Nat.le_of_ble_eq_true rfl) ⟨Nat.le_of_ble_eq_true rfl, Nat.le_of_ble_eq_true rfl⟩ dX5_sayTells_86 ?_
    intro r10 M10 h
    refine j_aload_n X 0 rfl rfl dX5_sayTells_89 ?_
    refine j_aload_n X 0 rfl rfl dX5_sayTells_90 ?_
    refine j_get X cl_67.1 (wE_5 _ cl_67.2) rfl awF5 2 (by decide) aw_746 rfl (v := .int (M10 67 2)) rfl dX5_sayTells_91 ?_
    refine j_iload_n X 2 rfl rfl dX5_sayTells_94 ?_
    refine j_callVI X (nn := 2) (As := [.int (M10 67 2), .int i2]) (st := [.int r10]) (ci := 5) cl_67.1 (wE_5 _ cl_67.2) rfl aw_765 aw_766 (x_X5_saySparks l D y ad 8 (M10 67 2) i2 _ _ h) aw_764 aw_767 aw_28 (by decide +kernel) ⟨(by show _ + 1 ≤ _ + 1 + _; omega), (by show 8 + (_ + 11) + 60 * _ ≤ 60 * _; omega)⟩ rfl (Nat.le_of_ble_eq_true rfl) ⟨Nat.le_of_ble_eq_true rfl, Nat.le_of_ble_eq_true rfl⟩ dX5_sayTells_95 ?_
    intro r11 M11 h
    refine j_ixor X dX5_sayTells_98 ?_
    exact j_iret X hr hlocks dX5_sayTells_99 h
theorem x_X5_sayTells (l : Launch) (D : va_G) (y : wY) (ad : Nat → Nat) (n : Nat) (i1 : Int32) (i2 : Int32) (M : Mem) (K : Int32 → Mem → Prop) (h : wp_X5_sayTells n i1 i2 M K) : MI l D y ad yX5_sayTells (Cond.code yX5_sayTells cX5_sayTells 3 (some .int)) (n + 19) M [.ref (ad 67), .int i1, .int i2] K := (xg_X5_sayTells l D y ad n) i1 i2 M K h
theorem dX5_say_0 : decode cX5_say 0 = .ok (.iload_n 1, 1) := dk_27 (by decide +kernel)
theorem dX5_say_1 : decode cX5_say 1 = .ok (.tableswitch 57 0 2 #[27, 37, 47], 27) := by decide +kernel
theorem dX5_say_28 : decode cX5_say 28 = .ok (.aload_n 0, 1) := dk_42 (by decide +kernel)
theorem dX5_say_29 : decode cX5_say 29 = .ok (.aload_n 0, 1) := dk_42 (by decide +kernel)
theorem dX5_say_30 : decode cX5_say 30 = .ok (.getfield 19, 3) := dk_180 (by decide +kernel)
theorem dX5_say_33 : decode cX5_say 33 = .ok (.iload_n 2, 1) := dk_28 (by decide +kernel)
theorem dX5_say_34 : decode cX5_say 34 = .ok (.invokevirtual 28, 3) := dk_182 (by decide +kernel)
theorem dX5_say_37 : decode cX5_say 37 = .ok (.ireturn, 1) := dk_172 (by decide +kernel)
theorem dX5_say_38 : decode cX5_say 38 = .ok (.aload_n 0, 1) := dk_42 (by decide +kernel)
theorem dX5_say_39 : decode cX5_say 39 = .ok (.aload_n 0, 1) := dk_42 (by decide +kernel)
theorem dX5_say_40 : decode cX5_say 40 = .ok (.getfield 19, 3) := dk_180 (by decide +kernel)
theorem dX5_say_43 : decode cX5_say 43 = .ok (.iload_n 2, 1) := dk_28 (by decide +kernel)
theorem dX5_say_44 : decode cX5_say 44 = .ok (.invokevirtual 32, 3) := dk_182 (by decide +kernel)
theorem dX5_say_47 : decode cX5_say 47 = .ok (.ireturn, 1) := dk_172 (by decide +kernel)
theorem dX5_say_48 : decode cX5_say 48 = .ok (.aload_n 0, 1) := dk_42 (by decide +kernel)
theorem dX5_say_49 : decode cX5_say 49 = .ok (.aload_n 0, 1) := dk_42 (by decide +kernel)
theorem dX5_say_50 : decode cX5_say 50 = .ok (.getfield 19, 3) := dk_180 (by decide +kernel)
theorem dX5_say_53 : decode cX5_say 53 = .ok (.iload_n 2, 1) := dk_28 (by decide +kernel)
theorem dX5_say_54 : decode cX5_say 54 = .ok (.invokevirtual 35, 3) := dk_182 (by decide +kernel)
theorem dX5_say_57 : decode cX5_say 57 = .ok (.ireturn, 1) := dk_172 (by decide +kernel)
theorem dX5_say_58 : decode cX5_say 58 = .ok (.aload_n 0, 1) := dk_42 (by decide +kernel)
theorem dX5_say_59 : decode cX5_say 59 = .ok (.aload_n 0, 1) := dk_42 (by decide +kernel)
theorem dX5_say_60 : decode cX5_say 60 = .ok (.getfield 19, 3) := dk_180 (by decide +kernel)
theorem dX5_say_63 : decode cX5_say 63 = .ok (.iload_n 2, 1) := dk_28 (by decide +kernel)
theorem dX5_say_64 : decode cX5_say 64 = .ok (.invokevirtual 38, 3) := dk_182 (by decide +kernel)
theorem dX5_say_67 : decode cX5_say 67 = .ok (.ireturn, 1) := dk_172 (by decide +kernel)
set_option maxRecDepth 100000 in
set_option maxHeartbeats 8000000 in
theorem x_X5_say (l : Launch) (D : va_G) (y : wY) (ad : Nat → Nat) (i1 : Int32) (i2 : Int32) (M : Mem) (K : Int32 → Mem → Prop) (h : wp_X5_say i1 i2 M K) : MI l D y ad yX5_say (Cond.code yX5_say cX5_say 3 (some .int)) 28 M [.ref (ad 67), .int i1, .int i2] K := by
  refine MI_of (by decide) (Nat.le_of_ble_eq_true rfl) ?_
  intro p e s m args below meth c X hr hlocks
  delta wp_X5_say at h
  refine j_lv (lv1 := [(0, .ref (ad 67)), (1, .int i1), (2, .int i2)]) [0, 1, 2] rfl ?_
  refine j_iload_n X 1 rfl rfl dX5_say_0 ?_
  by_cases w_1 : i1 = 0
  · replace h := h.1 w_1
    refine j_tsw_in X 28 0 w_1 (by decide) (by decide) (off := 27) rfl (by decide) dX5_say_1 ?_
    refine j_aload_n X 0 rfl rfl dX5_say_28 ?_
    refine j_aload_n X 0 rfl rfl dX5_say_29 ?_
    refine j_get X cl_67.1 (wE_5 _ cl_67.2) rfl awF5 2 (by decide) aw_746 rfl (v := .int (M 67 2)) rfl dX5_say_30 ?_
    refine j_iload_n X 2 rfl rfl dX5_say_33 ?_
    refine j_callVI X (nn := 2) (As := [.int (M 67 2), .int i2]) (st := []) (ci := 5) cl_67.1 (wE_5 _ cl_67.2) rfl aw_753 aw_754 (x_X5_sayGrinds l D y ad 8 (M 67 2) i2 _ _ h) aw_752 aw_755 aw_28 (by decide +kernel) ⟨Nat.le_of_ble_eq_true rfl, Nat.le_of_ble_eq_true rfl⟩ rfl (Nat.le_of_ble_eq_true rfl) ⟨Nat.le_of_ble_eq_true rfl, Nat.le_of_ble_eq_true rfl⟩ dX5_say_34 ?_
    intro r2 M2 h
    exact j_iret X hr hlocks dX5_say_37 h
  replace h := h.2 w_1
  by_cases w_3 : i1 = 1
  · replace h := h.1 w_3
    refine j_tsw_in X 38 1 w_3 (by decide) (by decide) (off := 37) rfl (by decide) dX5_say_1 ?_
    refine j_aload_n X 0 rfl rfl dX5_say_38 ?_
    refine j_aload_n X 0 rfl rfl dX5_say_39 ?_
    refine j_get X cl_67.1 (wE_5 _ cl_67.2) rfl awF5 2 (by decide) aw_746 rfl (v := .int (M 67 2)) rfl dX5_say_40 ?_
    refine j_iload_n X 2 rfl rfl dX5_say_43 ?_
    refine j_callVI X (nn := 2) (As := [.int (M 67 2), .int i2]) (st := []) (ci := 5) cl_67.1 (wE_5 _ cl_67.2) rfl aw_761 aw_762 (x_X5_sayCuts l D y ad 8 (M 67 2) i2 _ _ h) aw_760 aw_763 aw_28 (by decide +kernel) ⟨Nat.le_of_ble_eq_true rfl, Nat.le_of_ble_eq_true rfl⟩ rfl (Nat.le_of_ble_eq_true rfl) ⟨Nat.le_of_ble_eq_true rfl, Nat.le_of_ble_eq_true rfl⟩ dX5_say_44 ?_
    intro r4 M4 h
    exact j_iret X hr hlocks dX5_say_47 h
  replace h := h.2 w_3
  by_cases w_5 : i1 = 2
  · replace h := h.1 w_5
    refine j_tsw_in X 48 2 w_5 (by decide) (by decide) (off := 47) rfl (by decide) dX5_say_1 ?_
    refine j_aload_n X 0 rfl rfl dX5_say_48 ?_
    refine j_aload_n X 0 rfl rfl dX5_say_49 ?_
    refine j_get X cl_67.1 (wE_5 _ cl_67.2) rfl awF5 2 (by decide) aw_746 rfl (v := .int (M 67 2)) rfl dX5_say_50 ?_
    refine j_iload_n X 2 rfl rfl dX5_say_53 ?_
    refine j_callVI X (nn := 2) (As := [.int (M 67 2), .int i2]) (st := []) (ci := 5) cl_67.1 (wE_5 _ cl_67.2) rfl aw_765 aw_766 (x_X5_saySparks l D y ad 8 (M 67 2) i2 _ _ h) aw_764 aw_767 aw_28 (by decide +kernel) ⟨Nat.le_of_ble_eq_true rfl, Nat.le_of_ble_eq_true rfl⟩ rfl (Nat.le_of_ble_eq_true rfl) ⟨Nat.le_of_ble_eq_true rfl, Nat.le_of_ble_eq_true rfl⟩ dX5_say_54 ?_
    intro r6 M6 h
    exact j_iret X hr hlocks dX5_say_57 h
  replace h := h.2 w_5
  have qw_1 := ti_ne (n := 0) (by decide) w_1
  have qw_3 := ti_ne (n := 1) (by decide) w_3
  have qw_5 := ti_ne (n := 2) (by decide) w_5
  refine j_tsw_out X 58 (by omega) (by decide) dX5_say_1 ?_
  refine j_aload_n X 0 rfl rfl dX5_say_58 ?_
  refine j_aload_n X 0 rfl rfl dX5_say_59 ?_
  refine j_get X cl_67.1 (wE_5 _ cl_67.2) rfl awF5 2 (by decide) aw_746 rfl (v := .int (M 67 2)) rfl dX5_say_60 ?_
  refine j_iload_n X 2 rfl rfl dX5_say_63 ?_
  refine j_callVI X (nn := 2) (As := [.int (M 67 2), .int i2]) (st := []) (ci := 5) cl_67.1 (wE_5 _ cl_67.2) rfl aw_769 aw_770 (x_X5_sayTells l D y ad 8 (M 67 2) i2 _ _ h) aw_768 aw_771 aw_28 (by decide +kernel) ⟨Nat.le_of_ble_eq_true rfl, Nat.le_of_ble_eq_true rfl⟩ rfl (Nat.le_of_ble_eq_true rfl) ⟨Nat.le_of_ble_eq_true rfl, Nat.le_of_ble_eq_true rfl⟩ dX5_say_64 ?_
  intro r7 M7 h
  exact j_iret X hr hlocks dX5_say_67 h
theorem dX6_textOf_0 : decode cX6_textOf 0 = .ok (.iload_n 1, 1) := dk_27 (by decide +kernel)
theorem dX6_textOf_1 : decode cX6_textOf 1 = .ok (.ifCond .ne 10, 3) := dk_154 (by decide +kernel)
theorem dX6_textOf_11 : decode cX6_textOf 11 = .ok (.aload_n 0, 1) := dk_42 (by decide +kernel)
theorem dX6_textOf_12 : decode cX6_textOf 12 = .ok (.getfield 18, 3) := dk_180 (by decide +kernel)
theorem dX6_textOf_15 : decode cX6_textOf 15 = .ok (.areturn, 1) := by decide +kernel
theorem dX6_textOf_4 : decode cX6_textOf 4 = .ok (.aload_n 0, 1) := dk_42 (by decide +kernel)
theorem dX6_textOf_5 : decode cX6_textOf 5 = .ok (.getfield 12, 3) := dk_180 (by decide +kernel)
theorem dX6_textOf_8 : decode cX6_textOf 8 = .ok (.goto 7, 3) := dk_167 (by decide +kernel)
set_option maxRecDepth 100000 in
set_option maxHeartbeats 8000000 in
theorem x_X6_textOf (l : Launch) (D : va_G) (y : wY) (ad : Nat → Nat) (x0 : Nat) (i1 : Int32) (hx0 : Cl x0 6) (M : Mem) (K : Nat → Mem → Prop) (h : wp_X6_textOf x0 i1 M K) : MR l D y ad yX6_textOf (Cond.code yX6_textOf cX6_textOf 2 (some (.object "KnivesGround$Text"))) 0 M [.ref (ad x0), .int i1] K := by
  refine MR_of (by decide) (Nat.le_of_ble_eq_true rfl) ?_
  intro p e s m args below meth c X hr hlocks
  delta wp_X6_textOf at h
  refine j_lv (lv1 := [(0, .ref (ad x0)), (1, .int i1)]) [0, 1] rfl ?_
  refine j_iload_n X 1 rfl rfl dX6_textOf_0 ?_
  refine j_if_ne X 11 (by decide) dX6_textOf_1 (fun q_1 => ?_) (fun q_1 => ?_)
  · replace h := h.1 q_1
    refine j_aload_n X 0 rfl rfl dX6_textOf_11 ?_
    refine j_get X hx0.1 (wE_6 _ hx0.2) rfl awF6 1 (by decide) aw_43 rfl (v := .ref (ad (rf x0 1))) rfl dX6_textOf_12 ?_
    have hk_2 := kf_6_1 hx0
    exact j_aret X hr hlocks dX6_textOf_15 h
  · replace h := h.2 q_1
    refine j_aload_n X 0 rfl rfl dX6_textOf_4 ?_
    refine j_get X hx0.1 (wE_6 _ hx0.2) rfl awF6 0 (by decide) aw_42 rfl (v := .ref (ad (rf x0 0))) rfl dX6_textOf_5 ?_
    have hk_3 := kf_6_0 hx0
    refine j_goto X 15 (by decide) dX6_textOf_8 ?_
    exact j_aret X hr hlocks dX6_textOf_15 h
theorem dX6_draw_0 : decode cX6_draw 0 = .ok (.aload_n 0, 1) := dk_42 (by decide +kernel)
theorem dX6_draw_1 : decode cX6_draw 1 = .ok (.aload_n 0, 1) := dk_42 (by decide +kernel)
theorem dX6_draw_2 : decode cX6_draw 2 = .ok (.getfield 37, 3) := dk_180 (by decide +kernel)
theorem dX6_draw_5 : decode cX6_draw 5 = .ok (.ldc 45, 2) := dk_18 (by decide +kernel)
theorem dX6_draw_7 : decode cX6_draw 7 = .ok (.imul, 1) := dk_104 (by decide +kernel)
theorem dX6_draw_8 : decode cX6_draw 8 = .ok (.sipush 12345, 3) := dk_17 (by decide +kernel)
theorem dX6_draw_11 : decode cX6_draw 11 = .ok (.iadd, 1) := dk_96 (by decide +kernel)
theorem dX6_draw_12 : decode cX6_draw 12 = .ok (.putfield 37, 3) := dk_181 (by decide +kernel)
theorem dX6_draw_15 : decode cX6_draw 15 = .ok (.aload_n 0, 1) := dk_42 (by decide +kernel)
theorem dX6_draw_16 : decode cX6_draw 16 = .ok (.getfield 37, 3) := dk_180 (by decide +kernel)
theorem dX6_draw_19 : decode cX6_draw 19 = .ok (.bipush 8, 2) := dk_16 (by decide +kernel)
theorem dX6_draw_21 : decode cX6_draw 21 = .ok (.iushr, 1) := dk_124 (by decide +kernel)
theorem dX6_draw_22 : decode cX6_draw 22 = .ok (.ireturn, 1) := dk_172 (by decide +kernel)
set_option maxRecDepth 100000 in
set_option maxHeartbeats 8000000 in
theorem x_X6_draw (l : Launch) (D : va_G) (y : wY) (ad : Nat → Nat) (x0 : Nat) (hx0 : Cl x0 6) (M : Mem) (K : Int32 → Mem → Prop) (h : wp_X6_draw x0 M K) : MI l D y ad yX6_draw (Cond.code yX6_draw cX6_draw 1 (some .int)) 0 M [.ref (ad x0)] K := by
  refine MI_of (by decide) (Nat.le_of_ble_eq_true rfl) ?_
  intro p e s m args below meth c X hr hlocks
  delta wp_X6_draw at h
  refine j_lv (lv1 := [(0, .ref (ad x0))]) [0] rfl ?_
  refine j_aload_n X 0 rfl rfl dX6_draw_0 ?_
  refine j_aload_n X 0 rfl rfl dX6_draw_1 ?_
  refine j_get X hx0.1 (wE_6 _ hx0.2) rfl awF6 7 (by decide) aw_48 rfl (v := .int (M x0 7)) rfl dX6_draw_2 ?_
  refine j_ldc X (v := 1103515245) aw_519 dX6_draw_5 ?_
  refine j_imul X dX6_draw_7 ?_
  refine j_sipush X (v := 12345) (by decide) dX6_draw_8 ?_
  refine j_iadd X dX6_draw_11 ?_
  refine j_put X (up M x0 7 (((M x0 7) * 1103515245) + 12345)) up_o hx0.1 (wE_6 _ hx0.2) rfl awF6 7 (by decide) (wP_6_7 _ _ hx0.2) tyX6 tyX6_ok nmX6 rfl (ty := .int) (by decide +kernel) rfl rfl (Nat.le_of_ble_eq_true rfl) aw_48 rfl dX6_draw_12 ?_
  refine j_aload_n X 0 rfl rfl dX6_draw_15 ?_
  refine j_get X hx0.1 (wE_6 _ hx0.2) rfl awF6 7 (by decide) aw_48 rfl (v := .int ((up M x0 7 (((M x0 7) * 1103515245) + 12345)) x0 7)) rfl dX6_draw_16 ?_
  refine j_bipush X (v := 8) (by decide) dX6_draw_19 ?_
  refine j_iushr X dX6_draw_21 ?_
  exact j_iret X hr hlocks dX6_draw_22 h
theorem dX6_copyFrom_0 : decode cX6_copyFrom 0 = .ok (.aload_n 0, 1) := dk_42 (by decide +kernel)
theorem dX6_copyFrom_1 : decode cX6_copyFrom 1 = .ok (.getfield 12, 3) := dk_180 (by decide +kernel)
theorem dX6_copyFrom_4 : decode cX6_copyFrom 4 = .ok (.aload_n 1, 1) := dk_43 (by decide +kernel)
theorem dX6_copyFrom_5 : decode cX6_copyFrom 5 = .ok (.getfield 12, 3) := dk_180 (by decide +kernel)
theorem dX6_copyFrom_8 : decode cX6_copyFrom 8 = .ok (.invokevirtual 46, 3) := dk_182 (by decide +kernel)
theorem dX6_copyFrom_11 : decode cX6_copyFrom 11 = .ok (.aload_n 0, 1) := dk_42 (by decide +kernel)
theorem dX6_copyFrom_12 : decode cX6_copyFrom 12 = .ok (.getfield 18, 3) := dk_180 (by decide +kernel)
theorem dX6_copyFrom_15 : decode cX6_copyFrom 15 = .ok (.aload_n 1, 1) := dk_43 (by decide +kernel)
theorem dX6_copyFrom_16 : decode cX6_copyFrom 16 = .ok (.getfield 18, 3) := dk_180 (by decide +kernel)
theorem dX6_copyFrom_19 : decode cX6_copyFrom 19 = .ok (.invokevirtual 46, 3) := dk_182 (by decide +kernel)
theorem dX6_copyFrom_22 : decode cX6_copyFrom 22 = .ok (.aload_n 0, 1) := dk_42 (by decide +kernel)
theorem dX6_copyFrom_23 : decode cX6_copyFrom 23 = .ok (.getfield 26, 3) := dk_180 (by decide +kernel)
theorem dX6_copyFrom_26 : decode cX6_copyFrom 26 = .ok (.aload_n 1, 1) := dk_43 (by decide +kernel)
theorem dX6_copyFrom_27 : decode cX6_copyFrom 27 = .ok (.getfield 26, 3) := dk_180 (by decide +kernel)
theorem dX6_copyFrom_30 : decode cX6_copyFrom 30 = .ok (.invokevirtual 50, 3) := dk_182 (by decide +kernel)
theorem dX6_copyFrom_33 : decode cX6_copyFrom 33 = .ok (.aload_n 1, 1) := dk_43 (by decide +kernel)
theorem dX6_copyFrom_34 : decode cX6_copyFrom 34 = .ok (.getfield 30, 3) := dk_180 (by decide +kernel)
theorem dX6_copyFrom_37 : decode cX6_copyFrom 37 = .ok (.iconst 0, 1) := dk_3 (by decide +kernel)
theorem dX6_copyFrom_38 : decode cX6_copyFrom 38 = .ok (.aload_n 0, 1) := dk_42 (by decide +kernel)
theorem dX6_copyFrom_39 : decode cX6_copyFrom 39 = .ok (.getfield 30, 3) := dk_180 (by decide +kernel)
theorem dX6_copyFrom_42 : decode cX6_copyFrom 42 = .ok (.iconst 0, 1) := dk_3 (by decide +kernel)
theorem dX6_copyFrom_43 : decode cX6_copyFrom 43 = .ok (.aload_n 1, 1) := dk_43 (by decide +kernel)
theorem dX6_copyFrom_44 : decode cX6_copyFrom 44 = .ok (.getfield 53, 3) := dk_180 (by decide +kernel)
theorem dX6_copyFrom_47 : decode cX6_copyFrom 47 = .ok (.invokestatic 56, 3) := dk_184 (by decide +kernel)
theorem dX6_copyFrom_50 : decode cX6_copyFrom 50 = .ok (.aload_n 1, 1) := dk_43 (by decide +kernel)
theorem dX6_copyFrom_51 : decode cX6_copyFrom 51 = .ok (.getfield 34, 3) := dk_180 (by decide +kernel)
theorem dX6_copyFrom_54 : decode cX6_copyFrom 54 = .ok (.iconst 0, 1) := dk_3 (by decide +kernel)
theorem dX6_copyFrom_55 : decode cX6_copyFrom 55 = .ok (.aload_n 0, 1) := dk_42 (by decide +kernel)
theorem dX6_copyFrom_56 : decode cX6_copyFrom 56 = .ok (.getfield 34, 3) := dk_180 (by decide +kernel)
theorem dX6_copyFrom_59 : decode cX6_copyFrom 59 = .ok (.iconst 0, 1) := dk_3 (by decide +kernel)
theorem dX6_copyFrom_60 : decode cX6_copyFrom 60 = .ok (.aload_n 1, 1) := dk_43 (by decide +kernel)
theorem dX6_copyFrom_61 : decode cX6_copyFrom 61 = .ok (.getfield 62, 3) := dk_180 (by decide +kernel)
theorem dX6_copyFrom_64 : decode cX6_copyFrom 64 = .ok (.invokestatic 56, 3) := dk_184 (by decide +kernel)
theorem dX6_copyFrom_67 : decode cX6_copyFrom 67 = .ok (.aload_n 0, 1) := dk_42 (by decide +kernel)
theorem dX6_copyFrom_68 : decode cX6_copyFrom 68 = .ok (.aload_n 1, 1) := dk_43 (by decide +kernel)
theorem dX6_copyFrom_69 : decode cX6_copyFrom 69 = .ok (.getfield 53, 3) := dk_180 (by decide +kernel)
theorem dX6_copyFrom_72 : decode cX6_copyFrom 72 = .ok (.putfield 53, 3) := dk_181 (by decide +kernel)
theorem dX6_copyFrom_75 : decode cX6_copyFrom 75 = .ok (.aload_n 0, 1) := dk_42 (by decide +kernel)
theorem dX6_copyFrom_76 : decode cX6_copyFrom 76 = .ok (.aload_n 1, 1) := dk_43 (by decide +kernel)
theorem dX6_copyFrom_77 : decode cX6_copyFrom 77 = .ok (.getfield 62, 3) := dk_180 (by decide +kernel)
theorem dX6_copyFrom_80 : decode cX6_copyFrom 80 = .ok (.putfield 62, 3) := dk_181 (by decide +kernel)
theorem dX6_copyFrom_83 : decode cX6_copyFrom 83 = .ok (.aload_n 0, 1) := dk_42 (by decide +kernel)
theorem dX6_copyFrom_84 : decode cX6_copyFrom 84 = .ok (.aload_n 1, 1) := dk_43 (by decide +kernel)
theorem dX6_copyFrom_85 : decode cX6_copyFrom 85 = .ok (.getfield 37, 3) := dk_180 (by decide +kernel)
theorem dX6_copyFrom_88 : decode cX6_copyFrom 88 = .ok (.putfield 37, 3) := dk_181 (by decide +kernel)
theorem dX6_copyFrom_91 : decode cX6_copyFrom 91 = .ok (.return_, 1) := dk_177 (by decide +kernel)
set_option maxRecDepth 100000 in
set_option maxHeartbeats 8000000 in
theorem x_X6_copyFrom (l : Launch) (D : va_G) (y : wY) (ad : Nat → Nat) (x0 : Nat) (x1 : Nat) (hx0 : Cl x0 6) (hx1 : Cl x1 6) (M : Mem) (K : Mem → Prop) (h : wp_X6_copyFrom x0 x1 M K) : MV l D y ad yX6_copyFrom (Cond.code yX6_copyFrom cX6_copyFrom 2 none) 2 M [.ref (ad x0), .ref (ad x1)] K := by
  refine MV_of (by decide) (Nat.le_of_ble_eq_true rfl) ?_
  intro p e s m args below meth c X hr hlocks
  delta wp_X6_copyFrom at h
  refine j_lv (lv1 := [(0, .ref (ad x0)), (1, .ref (ad x1))]) [0, 1] rfl ?_
  refine j_aload_n X 0 rfl rfl dX6_copyFrom_0 ?_
  refine j_get X hx0.1 (wE_6 _ hx0.2) rfl awF6 0 (by decide) aw_42 rfl (v := .ref (ad (rf x0 0))) rfl dX6_copyFrom_1 ?_
  have hk_1 := kf_6_0 hx0
  refine j_aload_n X 1 rfl rfl dX6_copyFrom_4 ?_
  refine j_get X hx1.1 (wE_6 _ hx1.2) rfl awF6 0 (by decide) aw_42 rfl (v := .ref (ad (rf x1 0))) rfl dX6_copyFrom_5 ?_
  have hk_2 := kf_6_0 hx1
  refine j_callVNV X (nn := 1) (As := [.ref (ad (rf x1 0))]) (st := []) (ci := 4) hk_1.1 (wE_4 _ hk_1.2) rfl aw_369 aw_370 (x_X4_copyFrom l D y ad (rf x0 0) (rf x1 0) hk_1 hk_2 _ _ h) (List.mem_of_getElem? (i := 49) rfl) aw_371 aw_41 (by decide +kernel) ⟨Nat.le_of_ble_eq_true rfl, Nat.le_of_ble_eq_true rfl⟩ rfl (Nat.le_of_ble_eq_true rfl) ⟨Nat.le_of_ble_eq_true rfl, Nat.le_of_ble_eq_true rfl⟩ dX6_copyFrom_8 ?_
  intro M3 h
  refine j_aload_n X 0 rfl rfl dX6_copyFrom_11 ?_
  refine j_get X hx0.1 (wE_6 _ hx0.2) rfl awF6 1 (by decide) aw_43 rfl (v := .ref (ad (rf x0 1))) rfl dX6_copyFrom_12 ?_
  have hk_4 := kf_6_1 hx0
  refine j_aload_n X 1 rfl rfl dX6_copyFrom_15 ?_
  refine j_get X hx1.1 (wE_6 _ hx1.2) rfl awF6 1 (by decide) aw_43 rfl (v := .ref (ad (rf x1 1))) rfl dX6_copyFrom_16 ?_
  have hk_5 := kf_6_1 hx1
  refine j_callVNV X (nn := 1) (As := [.ref (ad (rf x1 1))]) (st := []) (ci := 4) hk_4.1 (wE_4 _ hk_4.2) rfl aw_369 aw_370 (x_X4_copyFrom l D y ad (rf x0 1) (rf x1 1) hk_4 hk_5 _ _ h) (List.mem_of_getElem? (i := 49) rfl) aw_371 aw_41 (by decide +kernel) ⟨Nat.le_of_ble_eq_true rfl, Nat.le_of_ble_eq_true rfl⟩ rfl (Nat.le_of_ble_eq_true rfl) ⟨Nat.le_of_ble_eq_true rfl, Nat.le_of_ble_eq_true rfl⟩ dX6_copyFrom_19 ?_
  intro M6 h
  refine j_aload_n X 0 rfl rfl dX6_copyFrom_22 ?_
  refine j_get X hx0.1 (wE_6 _ hx0.2) rfl awF6 2 (by decide) aw_45 rfl (v := .ref (ad (rf x0 2))) rfl dX6_copyFrom_23 ?_
  have hk_7 := kf_6_2 hx0
  refine j_aload_n X 1 rfl rfl dX6_copyFrom_26 ?_
  refine j_get X hx1.1 (wE_6 _ hx1.2) rfl awF6 2 (by decide) aw_45 rfl (v := .ref (ad (rf x1 2))) rfl dX6_copyFrom_27 ?_
  have hk_8 := kf_6_2 hx1
  refine j_callVNV X (nn := 1) (As := [.ref (ad (rf x1 2))]) (st := []) (ci := 0) hk_7.1 (wE_0 _ hk_7.2) rfl aw_537 aw_538 (x_X0_copyFrom l D y ad (rf x0 2) (rf x1 2) hk_7 hk_8 _ _ h) (List.mem_of_getElem? (i := 50) rfl) aw_539 aw_20 (by decide +kernel) ⟨Nat.le_of_ble_eq_true rfl, Nat.le_of_ble_eq_true rfl⟩ rfl (Nat.le_of_ble_eq_true rfl) ⟨Nat.le_of_ble_eq_true rfl, Nat.le_of_ble_eq_true rfl⟩ dX6_copyFrom_30 ?_
  intro M9 h
  refine j_aload_n X 1 rfl rfl dX6_copyFrom_33 ?_
  refine j_get X hx1.1 (wE_6 _ hx1.2) rfl awF6 3 (by decide) aw_46 rfl (v := .ref (ad (rf x1 3))) rfl dX6_copyFrom_34 ?_
  have hk_10 := kf_6_3 hx1
  refine j_iconst X (v := 0) (by decide) dX6_copyFrom_37 ?_
  refine j_aload_n X 0 rfl rfl dX6_copyFrom_38 ?_
  refine j_get X hx0.1 (wE_6 _ hx0.2) rfl awF6 3 (by decide) aw_46 rfl (v := .ref (ad (rf x0 3))) rfl dX6_copyFrom_39 ?_
  have hk_11 := kf_6_3 hx0
  refine j_iconst X (v := 0) (by decide) dX6_copyFrom_42 ?_
  refine j_aload_n X 1 rfl rfl dX6_copyFrom_43 ?_
  refine j_get X hx1.1 (wE_6 _ hx1.2) rfl awF6 5 (by decide) aw_871 rfl (v := .int (M9 x1 5)) rfl dX6_copyFrom_44 ?_
  obtain ⟨g_12, h⟩ := h
  obtain ⟨g_13, h⟩ := h
  obtain ⟨g_14, h⟩ := h
  obtain ⟨g_15, h⟩ := h
  obtain ⟨g_16, h⟩ := h
  refine j_copy X (i := (rf x1 3)) (j := (rf x0 3)) aw_872 aw_320 aw_321 aw_322 hk_10.1 hk_11.1 hk_10.2 hk_11.2 g_12 g_13 g_14 g_15 g_16 (Nat.le_of_ble_eq_true rfl) (Nat.le_of_ble_eq_true rfl) dX6_copyFrom_47 ?_
  refine j_topM (fun Mg_17 eMg_17 => ?_)
  replace h := h Mg_17 eMg_17
  refine j_aload_n X 1 rfl rfl dX6_copyFrom_50 ?_
  refine j_get X hx1.1 (wE_6 _ hx1.2) rfl awF6 4 (by decide) aw_47 rfl (v := .ref (ad (rf x1 4))) rfl dX6_copyFrom_51 ?_
  have hk_18 := kf_6_4 hx1
  refine j_iconst X (v := 0) (by decide) dX6_copyFrom_54 ?_
  refine j_aload_n X 0 rfl rfl dX6_copyFrom_55 ?_
  refine j_get X hx0.1 (wE_6 _ hx0.2) rfl awF6 4 (by decide) aw_47 rfl (v := .ref (ad (rf x0 4))) rfl dX6_copyFrom_56 ?_
  have hk_19 := kf_6_4 hx0
  refine j_iconst X (v := 0) (by decide) dX6_copyFrom_59 ?_
  refine j_aload_n X 1 rfl rfl dX6_copyFrom_60 ?_
  refine j_get X hx1.1 (wE_6 _ hx1.2) rfl awF6 6 (by decide) aw_873 rfl (v := .int (Mg_17 x1 6)) rfl dX6_copyFrom_61 ?_
  obtain ⟨g_20, h⟩ := h
  obtain ⟨g_21, h⟩ := h
  obtain ⟨g_22, h⟩ := h
  obtain ⟨g_23, h⟩ := h
  obtain ⟨g_24, h⟩ := h
  refine j_copy X (i := (rf x1 4)) (j := (rf x0 4)) aw_872 aw_320 aw_321 aw_322 hk_18.1 hk_19.1 hk_18.2 hk_19.2 g_20 g_21 g_22 g_23 g_24 (Nat.le_of_ble_eq_true rfl) (Nat.le_of_ble_eq_true rfl) dX6_copyFrom_64 ?_
  refine j_topM (fun Mg_25 eMg_25 => ?_)
  replace h := h Mg_25 eMg_25
  refine j_aload_n X 0 rfl rfl dX6_copyFrom_67 ?_
  refine j_aload_n X 1 rfl rfl dX6_copyFrom_68 ?_
  refine j_get X hx1.1 (wE_6 _ hx1.2) rfl awF6 5 (by decide) aw_871 rfl (v := .int (Mg_25 x1 5)) rfl dX6_copyFrom_69 ?_
  refine j_put X (up Mg_25 x0 5 (Mg_25 x1 5)) up_o hx0.1 (wE_6 _ hx0.2) rfl awF6 5 (by decide) (wP_6_5 _ _ hx0.2) tyX6 tyX6_ok nmX6 rfl (ty := .int) (by decide +kernel) rfl rfl (Nat.le_of_ble_eq_true rfl) aw_871 rfl dX6_copyFrom_72 ?_
  refine j_aload_n X 0 rfl rfl dX6_copyFrom_75 ?_
  refine j_aload_n X 1 rfl rfl dX6_copyFrom_76 ?_
  refine j_get X hx1.1 (wE_6 _ hx1.2) rfl awF6 6 (by decide) aw_873 rfl (v := .int ((up Mg_25 x0 5 (Mg_25 x1 5)) x1 6)) rfl dX6_copyFrom_77 ?_
  refine j_put X (up (up Mg_25 x0 5 (Mg_25 x1 5)) x0 6 ((up Mg_25 x0 5 (Mg_25 x1 5)) x1 6)) up_o hx0.1 (wE_6 _ hx0.2) rfl awF6 6 (by decide) (wP_6_6 _ _ hx0.2) tyX6 tyX6_ok nmX6 rfl (ty := .int) (by decide +kernel) rfl rfl (Nat.le_of_ble_eq_true rfl) aw_873 rfl dX6_copyFrom_80 ?_
  refine j_aload_n X 0 rfl rfl dX6_copyFrom_83 ?_
  refine j_aload_n X 1 rfl rfl dX6_copyFrom_84 ?_
  refine j_get X hx1.1 (wE_6 _ hx1.2) rfl awF6 7 (by decide) aw_48 rfl (v := .int ((up (up Mg_25 x0 5 (Mg_25 x1 5)) x0 6 ((up Mg_25 x0 5 (Mg_25 x1 5)) x1 6)) x1 7)) rfl dX6_copyFrom_85 ?_
  refine j_put X (up (up (up Mg_25 x0 5 (Mg_25 x1 5)) x0 6 ((up Mg_25 x0 5 (Mg_25 x1 5)) x1 6)) x0 7 ((up (up Mg_25 x0 5 (Mg_25 x1 5)) x0 6 ((up Mg_25 x0 5 (Mg_25 x1 5)) x1 6)) x1 7)) up_o hx0.1 (wE_6 _ hx0.2) rfl awF6 7 (by decide) (wP_6_7 _ _ hx0.2) tyX6 tyX6_ok nmX6 rfl (ty := .int) (by decide +kernel) rfl rfl (Nat.le_of_ble_eq_true rfl) aw_48 rfl dX6_copyFrom_88 ?_
  refine j_topM (fun Mg_26 eMg_26 => ?_)
  replace h := h Mg_26 eMg_26
  exact j_vret X hr hlocks dX6_copyFrom_91 h
theorem dX7_refuse_0 : decode cX7_refuse 0 = .ok (.aload_n 0, 1) := dk_42 (by decide +kernel)
theorem dX7_refuse_1 : decode cX7_refuse 1 = .ok (.getfield 55, 3) := dk_180 (by decide +kernel)
theorem dX7_refuse_4 : decode cX7_refuse 4 = .ok (.ldc_w 313, 3) := by decide +kernel
theorem dX7_refuse_7 : decode cX7_refuse 7 = .ok (.iload_n 1, 1) := dk_27 (by decide +kernel)
theorem dX7_refuse_8 : decode cX7_refuse 8 = .ok (.isub, 1) := dk_100 (by decide +kernel)
theorem dX7_refuse_9 : decode cX7_refuse 9 = .ok (.dup2, 1) := dk_92 (by decide +kernel)
theorem dX7_refuse_10 : decode cX7_refuse 10 = .ok (.iaload, 1) := dk_46 (by decide +kernel)
theorem dX7_refuse_11 : decode cX7_refuse 11 = .ok (.iconst 1, 1) := dk_4 (by decide +kernel)
theorem dX7_refuse_12 : decode cX7_refuse 12 = .ok (.iadd, 1) := dk_96 (by decide +kernel)
theorem dX7_refuse_13 : decode cX7_refuse 13 = .ok (.iastore, 1) := dk_79 (by decide +kernel)
theorem dX7_refuse_14 : decode cX7_refuse 14 = .ok (.iload_n 1, 1) := dk_27 (by decide +kernel)
theorem dX7_refuse_15 : decode cX7_refuse 15 = .ok (.ireturn, 1) := dk_172 (by decide +kernel)
set_option maxRecDepth 100000 in
set_option maxHeartbeats 8000000 in
theorem x_X7_refuse (l : Launch) (D : va_G) (y : wY) (ad : Nat → Nat) (i1 : Int32) (M : Mem) (K : Int32 → Mem → Prop) (h : wp_X7_refuse i1 M K) : MI l D y ad yX7_refuse (Cond.code yX7_refuse cX7_refuse 2 (some .int)) 0 M [.ref (ad 0), .int i1] K := by
  refine MI_of (by decide) (Nat.le_of_ble_eq_true rfl) ?_
  intro p e s m args below meth c X hr hlocks
  delta wp_X7_refuse at h
  refine j_lv (lv1 := [(0, .ref (ad 0)), (1, .int i1)]) [0, 1] rfl ?_
  refine j_aload_n X 0 rfl rfl dX7_refuse_0 ?_
  refine j_get X cl_0.1 (wE_7 _ cl_0.2) rfl awF7 6 (by decide) aw_33 rfl (v := .ref (ad 78)) rfl dX7_refuse_1 ?_
  refine j_ldcw X (v := (-1000000000)) aw_120 dX7_refuse_4 ?_
  refine j_iload_n X 1 rfl rfl dX7_refuse_7 ?_
  refine j_isub X dX7_refuse_8 ?_
  refine j_dup2 X rfl rfl dX7_refuse_9 ?_
  obtain ⟨hi_1, h⟩ := h
  refine j_iald X cl_78.1 cl_78.2 hi_1 dX7_refuse_10 ?_
  refine j_iconst X (v := 1) (by decide) dX7_refuse_11 ?_
  refine j_iadd X dX7_refuse_12 ?_
  obtain ⟨hi_2, h⟩ := h
  refine j_iast X cl_78.1 cl_78.2 hi_2 dX7_refuse_13 ?_
  refine j_iload_n X 1 rfl rfl dX7_refuse_14 ?_
  exact j_iret X hr hlocks dX7_refuse_15 h
theorem dX7_mostOfGrinder_0 : decode cX7_mostOfGrinder 0 = .ok (.iload_n 0, 1) := dk_26 (by decide +kernel)
theorem dX7_mostOfGrinder_1 : decode cX7_mostOfGrinder 1 = .ok (.tableswitch 37 0 2 #[27, 30, 33], 27) := by decide +kernel
theorem dX7_mostOfGrinder_28 : decode cX7_mostOfGrinder 28 = .ok (.bipush 9, 2) := dk_16 (by decide +kernel)
theorem dX7_mostOfGrinder_30 : decode cX7_mostOfGrinder 30 = .ok (.ireturn, 1) := dk_172 (by decide +kernel)
theorem dX7_mostOfGrinder_31 : decode cX7_mostOfGrinder 31 = .ok (.bipush 9, 2) := dk_16 (by decide +kernel)
theorem dX7_mostOfGrinder_33 : decode cX7_mostOfGrinder 33 = .ok (.ireturn, 1) := dk_172 (by decide +kernel)
theorem dX7_mostOfGrinder_34 : decode cX7_mostOfGrinder 34 = .ok (.ldc_w 314, 3) := by decide +kernel
theorem dX7_mostOfGrinder_37 : decode cX7_mostOfGrinder 37 = .ok (.ireturn, 1) := dk_172 (by decide +kernel)
theorem dX7_mostOfGrinder_38 : decode cX7_mostOfGrinder 38 = .ok (.ldc_w 314, 3) := by decide +kernel
theorem dX7_mostOfGrinder_41 : decode cX7_mostOfGrinder 41 = .ok (.ireturn, 1) := dk_172 (by decide +kernel)
set_option maxRecDepth 100000 in
set_option maxHeartbeats 8000000 in
theorem x_X7_mostOfGrinder (l : Launch) (D : va_G) (y : wY) (ad : Nat → Nat) (i0 : Int32) (M : Mem) (K : Int32 → Mem → Prop) (h : wp_X7_mostOfGrinder i0 M K) : MI l D y ad yX7_mostOfGrinder (Cond.code yX7_mostOfGrinder cX7_mostOfGrinder 1 (some .int)) 0 M [.int i0] K := by
  refine MI_of (by decide) (Nat.le_of_ble_eq_true rfl) ?_
  intro p e s m args below meth c X hr hlocks
  delta wp_X7_mostOfGrinder at h
  refine j_lv (lv1 := [(0, .int i0)]) [0] rfl ?_
  refine j_iload_n X 0 rfl rfl dX7_mostOfGrinder_0 ?_
  by_cases w_1 : i0 = 0
  · replace h := h.1 w_1
    refine j_tsw_in X 28 0 w_1 (by decide) (by decide) (off := 27) rfl (by decide) dX7_mostOfGrinder_1 ?_
    refine j_bipush X (v := 9) (by decide) dX7_mostOfGrinder_28 ?_
    exact j_iret X hr hlocks dX7_mostOfGrinder_30 h
  replace h := h.2 w_1
  by_cases w_2 : i0 = 1
  · replace h := h.1 w_2
    refine j_tsw_in X 31 1 w_2 (by decide) (by decide) (off := 30) rfl (by decide) dX7_mostOfGrinder_1 ?_
    refine j_bipush X (v := 9) (by decide) dX7_mostOfGrinder_31 ?_
    exact j_iret X hr hlocks dX7_mostOfGrinder_33 h
  replace h := h.2 w_2
  by_cases w_3 : i0 = 2
  · replace h := h.1 w_3
    refine j_tsw_in X 34 2 w_3 (by decide) (by decide) (off := 33) rfl (by decide) dX7_mostOfGrinder_1 ?_
    refine j_ldcw X (v := 99999) aw_115 dX7_mostOfGrinder_34 ?_
    exact j_iret X hr hlocks dX7_mostOfGrinder_37 h
  replace h := h.2 w_3
  have qw_1 := ti_ne (n := 0) (by decide) w_1
  have qw_2 := ti_ne (n := 1) (by decide) w_2
  have qw_3 := ti_ne (n := 2) (by decide) w_3
  refine j_tsw_out X 38 (by omega) (by decide) dX7_mostOfGrinder_1 ?_
  refine j_ldcw X (v := 99999) aw_115 dX7_mostOfGrinder_38 ?_
  exact j_iret X hr hlocks dX7_mostOfGrinder_41 h
theorem dX7_set_0 : decode cX7_set 0 = .ok (.iload_n 1, 1) := dk_27 (by decide +kernel)
theorem dX7_set_1 : decode cX7_set 1 = .ok (.iconst 0, 1) := dk_3 (by decide +kernel)
theorem dX7_set_2 : decode cX7_set 2 = .ok (.iconst 3, 1) := dk_6 (by decide +kernel)
theorem dX7_set_3 : decode cX7_set 3 = .ok (.invokestatic 60, 3) := dk_184 (by decide +kernel)
theorem dX7_set_6 : decode cX7_set 6 = .ok (.ifCond .eq 15, 3) := dk_153 (by decide +kernel)
theorem dX7_set_21 : decode cX7_set 21 = .ok (.aload_n 0, 1) := dk_42 (by decide +kernel)
theorem dX7_set_22 : decode cX7_set 22 = .ok (.ldc 68, 2) := dk_18 (by decide +kernel)
theorem dX7_set_24 : decode cX7_set 24 = .ok (.invokevirtual 69, 3) := dk_182 (by decide +kernel)
theorem dX7_set_27 : decode cX7_set 27 = .ok (.ireturn, 1) := dk_172 (by decide +kernel)
theorem dX7_set_9 : decode cX7_set 9 = .ok (.iload_n 2, 1) := dk_28 (by decide +kernel)
theorem dX7_set_10 : decode cX7_set 10 = .ok (.iconst 0, 1) := dk_3 (by decide +kernel)
theorem dX7_set_11 : decode cX7_set 11 = .ok (.iload_n 1, 1) := dk_27 (by decide +kernel)
theorem dX7_set_12 : decode cX7_set 12 = .ok (.invokestatic 64, 3) := dk_184 (by decide +kernel)
theorem dX7_set_15 : decode cX7_set 15 = .ok (.invokestatic 60, 3) := dk_184 (by decide +kernel)
theorem dX7_set_18 : decode cX7_set 18 = .ok (.ifCond .ne 10, 3) := dk_154 (by decide +kernel)
theorem dX7_set_28 : decode cX7_set 28 = .ok (.aload_n 0, 1) := dk_42 (by decide +kernel)
theorem dX7_set_29 : decode cX7_set 29 = .ok (.getfield 12, 3) := dk_180 (by decide +kernel)
theorem dX7_set_32 : decode cX7_set 32 = .ok (.getfield 72, 3) := dk_180 (by decide +kernel)
theorem dX7_set_35 : decode cX7_set 35 = .ok (.iload_n 1, 1) := dk_27 (by decide +kernel)
theorem dX7_set_36 : decode cX7_set 36 = .ok (.iload_n 2, 1) := dk_28 (by decide +kernel)
theorem dX7_set_37 : decode cX7_set 37 = .ok (.invokevirtual 75, 3) := dk_182 (by decide +kernel)
theorem dX7_set_40 : decode cX7_set 40 = .ok (.ireturn, 1) := dk_172 (by decide +kernel)
set_option maxRecDepth 100000 in
set_option maxHeartbeats 8000000 in
theorem x_X7_set (l : Launch) (D : va_G) (y : wY) (ad : Nat → Nat) (i1 : Int32) (i2 : Int32) (M : Mem) (K : Int32 → Mem → Prop) (h : wp_X7_set i1 i2 M K) : MI l D y ad yX7_set (Cond.code yX7_set cX7_set 3 (some .int)) 1 M [.ref (ad 0), .int i1, .int i2] K := by
  refine MI_of (by decide) (Nat.le_of_ble_eq_true rfl) ?_
  intro p e s m args below meth c X hr hlocks
  delta wp_X7_set at h
  refine j_lv (lv1 := [(0, .ref (ad 0)), (1, .int i1), (2, .int i2)]) [0, 1, 2] rfl ?_
  refine j_iload_n X 1 rfl rfl dX7_set_0 ?_
  refine j_iconst X (v := 0) (by decide) dX7_set_1 ?_
  refine j_iconst X (v := 3) (by decide) dX7_set_2 ?_
  refine j_callSI X (nn := 3) (As := [.int i1, .int 0, .int 3]) (st := []) aw_110 (x_X7_isWithin l D y ad i1 0 3 _ _ h) aw_109 aw_111 aw_2 (by decide +kernel) ⟨Nat.le_of_ble_eq_true rfl, Nat.le_of_ble_eq_true rfl⟩ rfl (Nat.le_of_ble_eq_true rfl) ⟨Nat.le_of_ble_eq_true rfl, Nat.le_of_ble_eq_true rfl⟩ dX7_set_3 ?_
  intro r1 M1 h
  refine j_if_eq X 21 (by decide) dX7_set_6 (fun q_2 => ?_) (fun q_2 => ?_)
  · replace h := h.1 q_2
    refine j_aload_n X 0 rfl rfl dX7_set_21 ?_
    refine j_ldc X (v := (-1000000001)) aw_108 dX7_set_22 ?_
    refine j_callVI X (nn := 1) (As := [.int (-1000000001)]) (st := []) (ci := 7) cl_0.1 (wE_7 _ cl_0.2) rfl aw_117 aw_118 (x_X7_refuse l D y ad (-1000000001) _ _ h) aw_116 aw_119 aw_2 (by decide +kernel) ⟨Nat.le_of_ble_eq_true rfl, Nat.le_of_ble_eq_true rfl⟩ rfl (Nat.le_of_ble_eq_true rfl) ⟨Nat.le_of_ble_eq_true rfl, Nat.le_of_ble_eq_true rfl⟩ dX7_set_24 ?_
    intro r3 M3 h
    exact j_iret X hr hlocks dX7_set_27 h
  · replace h := h.2 q_2
    refine j_iload_n X 2 rfl rfl dX7_set_9 ?_
    refine j_iconst X (v := 0) (by decide) dX7_set_10 ?_
    refine j_iload_n X 1 rfl rfl dX7_set_11 ?_
    refine j_callSI X (nn := 1) (As := [.int i1]) (st := [.int 0, .int i2]) aw_113 (x_X7_mostOfGrinder l D y ad i1 _ _ h) aw_112 aw_114 aw_2 (by decide +kernel) ⟨Nat.le_of_ble_eq_true rfl, Nat.le_of_ble_eq_true rfl⟩ rfl (Nat.le_of_ble_eq_true rfl) ⟨Nat.le_of_ble_eq_true rfl, Nat.le_of_ble_eq_true rfl⟩ dX7_set_12 ?_
    intro r4 M4 h
    refine j_callSI X (nn := 3) (As := [.int i2, .int 0, .int r4]) (st := []) aw_110 (x_X7_isWithin l D y ad i2 0 r4 _ _ h) aw_109 aw_111 aw_2 (by decide +kernel) ⟨Nat.le_of_ble_eq_true rfl, Nat.le_of_ble_eq_true rfl⟩ rfl (Nat.le_of_ble_eq_true rfl) ⟨Nat.le_of_ble_eq_true rfl, Nat.le_of_ble_eq_true rfl⟩ dX7_set_15 ?_
    intro r5 M5 h
    refine j_if_ne X 28 (by decide) dX7_set_18 (fun q_6 => ?_) (fun q_6 => ?_)
    · replace h := h.1 q_6
      refine j_aload_n X 0 rfl rfl dX7_set_28 ?_
      refine j_get X cl_0.1 (wE_7 _ cl_0.2) rfl awF7 0 (by decide) aw_16 rfl (v := .ref (ad 1)) rfl dX7_set_29 ?_
      refine j_getN X cl_1.1 (wE_6 _ cl_1.2) rfl awF6 2 (by decide) (List.mem_of_getElem? (i := 23) rfl) rfl (v := .ref (ad 12)) rfl dX7_set_32 ?_
      refine j_iload_n X 1 rfl rfl dX7_set_35 ?_
      refine j_iload_n X 2 rfl rfl dX7_set_36 ?_
      refine j_callVNI X (nn := 2) (As := [.int i1, .int i2]) (st := []) (ci := 0) cl_12.1 (wE_0 _ cl_12.2) rfl aw_121 aw_122 (x_X0_setGrinder l D y ad 12 i1 i2 cl_12 _ _ h) (List.mem_of_getElem? (i := 10) rfl) aw_123 aw_20 (by decide +kernel) ⟨Nat.le_of_ble_eq_true rfl, Nat.le_of_ble_eq_true rfl⟩ rfl (Nat.le_of_ble_eq_true rfl) ⟨Nat.le_of_ble_eq_true rfl, Nat.le_of_ble_eq_true rfl⟩ dX7_set_37 ?_
      intro r7 M7 h
      exact j_iret X hr hlocks dX7_set_40 h
    · replace h := h.2 q_6
      refine j_aload_n X 0 rfl rfl dX7_set_21 ?_
      refine j_ldc X (v := (-1000000001)) aw_108 dX7_set_22 ?_
      refine j_callVI X (nn := 1) (As := [.int (-1000000001)]) (st := []) (ci := 7) cl_0.1 (wE_7 _ cl_0.2) rfl aw_117 aw_118 (x_X7_refuse l D y ad (-1000000001) _ _ h) aw_116 aw_119 aw_2 (by decide +kernel) ⟨Nat.le_of_ble_eq_true rfl, Nat.le_of_ble_eq_true rfl⟩ rfl (Nat.le_of_ble_eq_true rfl) ⟨Nat.le_of_ble_eq_true rfl, Nat.le_of_ble_eq_true rfl⟩ dX7_set_24 ?_
      intro r8 M8 h
      exact j_iret X hr hlocks dX7_set_27 h
theorem dX7_inArea_0 : decode cX7_inArea 0 = .ok (.iload_n 1, 1) := dk_27 (by decide +kernel)
theorem dX7_inArea_1 : decode cX7_inArea 1 = .ok (.iconst 0, 1) := dk_3 (by decide +kernel)
theorem dX7_inArea_2 : decode cX7_inArea 2 = .ok (.bipush 9, 2) := dk_16 (by decide +kernel)
theorem dX7_inArea_4 : decode cX7_inArea 4 = .ok (.invokestatic 60, 3) := dk_184 (by decide +kernel)
theorem dX7_inArea_7 : decode cX7_inArea 7 = .ok (.ifCond .ne 10, 3) := dk_154 (by decide +kernel)
theorem dX7_inArea_17 : decode cX7_inArea 17 = .ok (.aload_n 0, 1) := dk_42 (by decide +kernel)
theorem dX7_inArea_18 : decode cX7_inArea 18 = .ok (.getfield 12, 3) := dk_180 (by decide +kernel)
theorem dX7_inArea_21 : decode cX7_inArea 21 = .ok (.getfield 72, 3) := dk_180 (by decide +kernel)
theorem dX7_inArea_24 : decode cX7_inArea 24 = .ok (.iload_n 1, 1) := dk_27 (by decide +kernel)
theorem dX7_inArea_25 : decode cX7_inArea 25 = .ok (.invokevirtual 79, 3) := dk_182 (by decide +kernel)
theorem dX7_inArea_28 : decode cX7_inArea 28 = .ok (.ireturn, 1) := dk_172 (by decide +kernel)
theorem dX7_inArea_10 : decode cX7_inArea 10 = .ok (.aload_n 0, 1) := dk_42 (by decide +kernel)
theorem dX7_inArea_11 : decode cX7_inArea 11 = .ok (.ldc 68, 2) := dk_18 (by decide +kernel)
theorem dX7_inArea_13 : decode cX7_inArea 13 = .ok (.invokevirtual 69, 3) := dk_182 (by decide +kernel)
theorem dX7_inArea_16 : decode cX7_inArea 16 = .ok (.ireturn, 1) := dk_172 (by decide +kernel)
set_option maxRecDepth 100000 in
set_option maxHeartbeats 8000000 in
theorem x_X7_inArea (l : Launch) (D : va_G) (y : wY) (ad : Nat → Nat) (i1 : Int32) (M : Mem) (K : Int32 → Mem → Prop) (h : wp_X7_inArea i1 M K) : MI l D y ad yX7_inArea (Cond.code yX7_inArea cX7_inArea 2 (some .int)) 1 M [.ref (ad 0), .int i1] K := by
  refine MI_of (by decide) (Nat.le_of_ble_eq_true rfl) ?_
  intro p e s m args below meth c X hr hlocks
  delta wp_X7_inArea at h
  refine j_lv (lv1 := [(0, .ref (ad 0)), (1, .int i1)]) [0, 1] rfl ?_
  refine j_iload_n X 1 rfl rfl dX7_inArea_0 ?_
  refine j_iconst X (v := 0) (by decide) dX7_inArea_1 ?_
  refine j_bipush X (v := 9) (by decide) dX7_inArea_2 ?_
  refine j_callSI X (nn := 3) (As := [.int i1, .int 0, .int 9]) (st := []) aw_110 (x_X7_isWithin l D y ad i1 0 9 _ _ h) aw_109 aw_111 aw_2 (by decide +kernel) ⟨Nat.le_of_ble_eq_true rfl, Nat.le_of_ble_eq_true rfl⟩ rfl (Nat.le_of_ble_eq_true rfl) ⟨Nat.le_of_ble_eq_true rfl, Nat.le_of_ble_eq_true rfl⟩ dX7_inArea_4 ?_
  intro r1 M1 h
  refine j_if_ne X 17 (by decide) dX7_inArea_7 (fun q_2 => ?_) (fun q_2 => ?_)
  · replace h := h.1 q_2
    refine j_aload_n X 0 rfl rfl dX7_inArea_17 ?_
    refine j_get X cl_0.1 (wE_7 _ cl_0.2) rfl awF7 0 (by decide) aw_16 rfl (v := .ref (ad 1)) rfl dX7_inArea_18 ?_
    refine j_getN X cl_1.1 (wE_6 _ cl_1.2) rfl awF6 2 (by decide) (List.mem_of_getElem? (i := 23) rfl) rfl (v := .ref (ad 12)) rfl dX7_inArea_21 ?_
    refine j_iload_n X 1 rfl rfl dX7_inArea_24 ?_
    refine j_callVNI X (nn := 1) (As := [.int i1]) (st := []) (ci := 0) cl_12.1 (wE_0 _ cl_12.2) rfl aw_152 aw_153 (x_X0_setInArea l D y ad 12 i1 cl_12 _ _ h) (List.mem_of_getElem? (i := 11) rfl) aw_154 aw_20 (by decide +kernel) ⟨Nat.le_of_ble_eq_true rfl, Nat.le_of_ble_eq_true rfl⟩ rfl (Nat.le_of_ble_eq_true rfl) ⟨Nat.le_of_ble_eq_true rfl, Nat.le_of_ble_eq_true rfl⟩ dX7_inArea_25 ?_
    intro r3 M3 h
    exact j_iret X hr hlocks dX7_inArea_28 h
  · replace h := h.2 q_2
    refine j_aload_n X 0 rfl rfl dX7_inArea_10 ?_
    refine j_ldc X (v := (-1000000001)) aw_108 dX7_inArea_11 ?_
    refine j_callVI X (nn := 1) (As := [.int (-1000000001)]) (st := []) (ci := 7) cl_0.1 (wE_7 _ cl_0.2) rfl aw_117 aw_118 (x_X7_refuse l D y ad (-1000000001) _ _ h) aw_116 aw_119 aw_2 (by decide +kernel) ⟨Nat.le_of_ble_eq_true rfl, Nat.le_of_ble_eq_true rfl⟩ rfl (Nat.le_of_ble_eq_true rfl) ⟨Nat.le_of_ble_eq_true rfl, Nat.le_of_ble_eq_true rfl⟩ dX7_inArea_13 ?_
    intro r4 M4 h
    exact j_iret X hr hlocks dX7_inArea_16 h
theorem dX7_isKindAndM_0 : decode cX7_isKindAndM 0 = .ok (.iload_n 0, 1) := dk_26 (by decide +kernel)
theorem dX7_isKindAndM_1 : decode cX7_isKindAndM 1 = .ok (.iconst 0, 1) := dk_3 (by decide +kernel)
theorem dX7_isKindAndM_2 : decode cX7_isKindAndM 2 = .ok (.bipush 69, 2) := dk_16 (by decide +kernel)
theorem dX7_isKindAndM_4 : decode cX7_isKindAndM 4 = .ok (.invokestatic 60, 3) := dk_184 (by decide +kernel)
theorem dX7_isKindAndM_7 : decode cX7_isKindAndM 7 = .ok (.ireturn, 1) := dk_172 (by decide +kernel)
set_option maxRecDepth 100000 in
set_option maxHeartbeats 8000000 in
theorem x_X7_isKindAndM (l : Launch) (D : va_G) (y : wY) (ad : Nat → Nat) (i0 : Int32) (M : Mem) (K : Int32 → Mem → Prop) (h : wp_X7_isKindAndM i0 M K) : MI l D y ad yX7_isKindAndM (Cond.code yX7_isKindAndM cX7_isKindAndM 1 (some .boolean)) 1 M [.int i0] K := by
  refine MI_of (by decide) (Nat.le_of_ble_eq_true rfl) ?_
  intro p e s m args below meth c X hr hlocks
  delta wp_X7_isKindAndM at h
  refine j_lv (lv1 := [(0, .int i0)]) [0] rfl ?_
  refine j_iload_n X 0 rfl rfl dX7_isKindAndM_0 ?_
  refine j_iconst X (v := 0) (by decide) dX7_isKindAndM_1 ?_
  refine j_bipush X (v := 69) (by decide) dX7_isKindAndM_2 ?_
  refine j_callSI X (nn := 3) (As := [.int i0, .int 0, .int 69]) (st := []) aw_110 (x_X7_isWithin l D y ad i0 0 69 _ _ h) aw_109 aw_111 aw_2 (by decide +kernel) ⟨Nat.le_of_ble_eq_true rfl, Nat.le_of_ble_eq_true rfl⟩ rfl (Nat.le_of_ble_eq_true rfl) ⟨Nat.le_of_ble_eq_true rfl, Nat.le_of_ble_eq_true rfl⟩ dX7_isKindAndM_4 ?_
  intro r1 M1 h
  obtain ⟨hb_2, h⟩ := h
  exact j_zret X hr hlocks hb_2 dX7_isKindAndM_7 h
