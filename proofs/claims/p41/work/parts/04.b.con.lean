theorem dX0_restDay_0 : decode cX0_restDay 0 = .ok (.aload_n 0, 1) := dk_42 (by decide +kernel)
theorem dX0_restDay_1 : decode cX0_restDay 1 = .ok (.iload_n 1, 1) := dk_27 (by decide +kernel)
theorem dX0_restDay_2 : decode cX0_restDay 2 = .ok (.invokevirtual 55, 3) := dk_182 (by decide +kernel)
theorem dX0_restDay_5 : decode cX0_restDay 5 = .ok (.aload_n 0, 1) := dk_42 (by decide +kernel)
theorem dX0_restDay_6 : decode cX0_restDay 6 = .ok (.aload_n 0, 1) := dk_42 (by decide +kernel)
theorem dX0_restDay_7 : decode cX0_restDay 7 = .ok (.getfield 36, 3) := dk_180 (by decide +kernel)
theorem dX0_restDay_10 : decode cX0_restDay 10 = .ok (.aload_n 0, 1) := dk_42 (by decide +kernel)
theorem dX0_restDay_11 : decode cX0_restDay 11 = .ok (.getfield 17, 3) := dk_180 (by decide +kernel)
theorem dX0_restDay_14 : decode cX0_restDay 14 = .ok (.iadd, 1) := dk_96 (by decide +kernel)
theorem dX0_restDay_15 : decode cX0_restDay 15 = .ok (.bipush 10, 2) := dk_16 (by decide +kernel)
theorem dX0_restDay_17 : decode cX0_restDay 17 = .ok (.irem, 1) := dk_112 (by decide +kernel)
theorem dX0_restDay_18 : decode cX0_restDay 18 = .ok (.putfield 36, 3) := dk_181 (by decide +kernel)
theorem dX0_restDay_21 : decode cX0_restDay 21 = .ok (.aload_n 0, 1) := dk_42 (by decide +kernel)
theorem dX0_restDay_22 : decode cX0_restDay 22 = .ok (.dup, 1) := dk_89 (by decide +kernel)
theorem dX0_restDay_23 : decode cX0_restDay 23 = .ok (.getfield 39, 3) := dk_180 (by decide +kernel)
theorem dX0_restDay_26 : decode cX0_restDay 26 = .ok (.iconst 1, 1) := dk_4 (by decide +kernel)
theorem dX0_restDay_27 : decode cX0_restDay 27 = .ok (.iadd, 1) := dk_96 (by decide +kernel)
theorem dX0_restDay_28 : decode cX0_restDay 28 = .ok (.putfield 39, 3) := dk_181 (by decide +kernel)
theorem dX0_restDay_31 : decode cX0_restDay 31 = .ok (.return_, 1) := dk_177 (by decide +kernel)
set_option maxRecDepth 100000 in
set_option maxHeartbeats 8000000 in
theorem x_X0_restDay (l : Launch) (D : va_G) (y : wY) (ad : Nat → Nat) (x0 : Nat) (i1 : Int32) (hx0 : Cl x0 0) (M : Mem) (K : Mem → Prop) (h : wp_X0_restDay x0 i1 M K) : MV l D y ad yX0_restDay (Cond.code yX0_restDay cX0_restDay 2 none) 4 M [.ref (ad x0), .int i1] K := by
  refine MV_of (by decide) (Nat.le_of_ble_eq_true rfl) ?_
  intro p e s m args below meth c X hr hlocks
  delta wp_X0_restDay at h
  refine j_lv (lv1 := [(0, .ref (ad x0)), (1, .int i1)]) [0, 1] rfl ?_
  refine j_aload_n X 0 rfl rfl dX0_restDay_0 ?_
  refine j_iload_n X 1 rfl rfl dX0_restDay_1 ?_
  refine j_callVV X (nn := 1) (As := [.int i1]) (st := []) (ci := 0) hx0.1 (wE_0 _ hx0.2) rfl aw_454 aw_455 (x_X0_endOrDull l D y ad x0 i1 hx0 _ _ h) aw_453 aw_456 aw_20 (by decide +kernel) ⟨Nat.le_of_ble_eq_true rfl, Nat.le_of_ble_eq_true rfl⟩ rfl (Nat.le_of_ble_eq_true rfl) ⟨Nat.le_of_ble_eq_true rfl, Nat.le_of_ble_eq_true rfl⟩ dX0_restDay_2 ?_
  intro M1 h
  refine j_aload_n X 0 rfl rfl dX0_restDay_5 ?_
  refine j_aload_n X 0 rfl rfl dX0_restDay_6 ?_
  refine j_get X hx0.1 (wE_0 _ hx0.2) rfl awF0 4 (by decide) aw_124 rfl (v := .int (M1 x0 4)) rfl dX0_restDay_7 ?_
  refine j_aload_n X 0 rfl rfl dX0_restDay_10 ?_
  refine j_get X hx0.1 (wE_0 _ hx0.2) rfl awF0 5 (by decide) aw_61 rfl (v := .int (M1 x0 5)) rfl dX0_restDay_11 ?_
  refine j_iadd X dX0_restDay_14 ?_
  refine j_bipush X (v := 10) (by decide) dX0_restDay_15 ?_
  refine j_irem X (by decide) dX0_restDay_17 ?_
  refine j_put X (up M1 x0 4 (((M1 x0 4) + (M1 x0 5)) - ((M1 x0 4) + (M1 x0 5)) / 10 * 10)) up_o hx0.1 (wE_0 _ hx0.2) rfl awF0 4 (by decide) (wP_0_4 _ _ hx0.2) tyX0 tyX0_ok nmX0 rfl (ty := .int) (by decide +kernel) rfl rfl (Nat.le_of_ble_eq_true rfl) aw_124 rfl dX0_restDay_18 ?_
  refine j_aload_n X 0 rfl rfl dX0_restDay_21 ?_
  refine j_dup X rfl dX0_restDay_22 ?_
  refine j_get X hx0.1 (wE_0 _ hx0.2) rfl awF0 6 (by decide) aw_197 rfl (v := .int ((up M1 x0 4 (((M1 x0 4) + (M1 x0 5)) - ((M1 x0 4) + (M1 x0 5)) / 10 * 10)) x0 6)) rfl dX0_restDay_23 ?_
  refine j_iconst X (v := 1) (by decide) dX0_restDay_26 ?_
  refine j_iadd X dX0_restDay_27 ?_
  refine j_put X (up (up M1 x0 4 (((M1 x0 4) + (M1 x0 5)) - ((M1 x0 4) + (M1 x0 5)) / 10 * 10)) x0 6 (((up M1 x0 4 (((M1 x0 4) + (M1 x0 5)) - ((M1 x0 4) + (M1 x0 5)) / 10 * 10)) x0 6) + 1)) up_o hx0.1 (wE_0 _ hx0.2) rfl awF0 6 (by decide) (wP_0_6 _ _ hx0.2) tyX0 tyX0_ok nmX0 rfl (ty := .int) (by decide +kernel) rfl rfl (Nat.le_of_ble_eq_true rfl) aw_197 rfl dX0_restDay_28 ?_
  refine j_topM (fun Mg_2 eMg_2 => ?_)
  replace h := h Mg_2 eMg_2
  exact j_vret X hr hlocks dX0_restDay_31 h
theorem dX1_gains_0 : decode cX1_gains 0 = .ok (.aload_n 0, 1) := dk_42 (by decide +kernel)
theorem dX1_gains_1 : decode cX1_gains 1 = .ok (.getfield 9, 3) := dk_180 (by decide +kernel)
theorem dX1_gains_4 : decode cX1_gains 4 = .ok (.tableswitch 91 1 6 #[40, 47, 51, 55, 74, 89], 40) := by decide +kernel
theorem dX1_gains_44 : decode cX1_gains 44 = .ok (.iload_n 1, 1) := dk_27 (by decide +kernel)
theorem dX1_gains_45 : decode cX1_gains 45 = .ok (.aload_n 0, 1) := dk_42 (by decide +kernel)
theorem dX1_gains_46 : decode cX1_gains 46 = .ok (.getfield 15, 3) := dk_180 (by decide +kernel)
theorem dX1_gains_49 : decode cX1_gains 49 = .ok (.iadd, 1) := dk_96 (by decide +kernel)
theorem dX1_gains_50 : decode cX1_gains 50 = .ok (.ireturn, 1) := dk_172 (by decide +kernel)
theorem dX1_gains_51 : decode cX1_gains 51 = .ok (.iconst 2, 1) := dk_5 (by decide +kernel)
theorem dX1_gains_52 : decode cX1_gains 52 = .ok (.iload_n 1, 1) := dk_27 (by decide +kernel)
theorem dX1_gains_53 : decode cX1_gains 53 = .ok (.imul, 1) := dk_104 (by decide +kernel)
theorem dX1_gains_54 : decode cX1_gains 54 = .ok (.ireturn, 1) := dk_172 (by decide +kernel)
theorem dX1_gains_55 : decode cX1_gains 55 = .ok (.iload_n 1, 1) := dk_27 (by decide +kernel)
theorem dX1_gains_56 : decode cX1_gains 56 = .ok (.iconst 2, 1) := dk_5 (by decide +kernel)
theorem dX1_gains_57 : decode cX1_gains 57 = .ok (.idiv, 1) := dk_108 (by decide +kernel)
theorem dX1_gains_58 : decode cX1_gains 58 = .ok (.ireturn, 1) := dk_172 (by decide +kernel)
theorem dX1_gains_59 : decode cX1_gains 59 = .ok (.iconst 0, 1) := dk_3 (by decide +kernel)
theorem dX1_gains_60 : decode cX1_gains 60 = .ok (.iload_n 1, 1) := dk_27 (by decide +kernel)
theorem dX1_gains_61 : decode cX1_gains 61 = .ok (.aload_n 0, 1) := dk_42 (by decide +kernel)
theorem dX1_gains_62 : decode cX1_gains 62 = .ok (.getfield 15, 3) := dk_180 (by decide +kernel)
theorem dX1_gains_65 : decode cX1_gains 65 = .ok (.iadd, 1) := dk_96 (by decide +kernel)
theorem dX1_gains_66 : decode cX1_gains 66 = .ok (.aload_n 0, 1) := dk_42 (by decide +kernel)
theorem dX1_gains_67 : decode cX1_gains 67 = .ok (.getfield 27, 3) := dk_180 (by decide +kernel)
theorem dX1_gains_70 : decode cX1_gains 70 = .ok (.bipush 10, 2) := dk_16 (by decide +kernel)
theorem dX1_gains_72 : decode cX1_gains 72 = .ok (.idiv, 1) := dk_108 (by decide +kernel)
theorem dX1_gains_73 : decode cX1_gains 73 = .ok (.isub, 1) := dk_100 (by decide +kernel)
theorem dX1_gains_74 : decode cX1_gains 74 = .ok (.invokestatic 38, 3) := dk_184 (by decide +kernel)
theorem dX1_gains_77 : decode cX1_gains 77 = .ok (.ireturn, 1) := dk_172 (by decide +kernel)
theorem dX1_gains_78 : decode cX1_gains 78 = .ok (.iload_n 2, 1) := dk_28 (by decide +kernel)
theorem dX1_gains_79 : decode cX1_gains 79 = .ok (.bipush 6, 2) := dk_16 (by decide +kernel)
theorem dX1_gains_81 : decode cX1_gains 81 = .ok (.irem, 1) := dk_112 (by decide +kernel)
theorem dX1_gains_82 : decode cX1_gains 82 = .ok (.ifCond .ne 7, 3) := dk_154 (by decide +kernel)
theorem dX1_gains_89 : decode cX1_gains 89 = .ok (.iconst 2, 1) := dk_5 (by decide +kernel)
theorem dX1_gains_90 : decode cX1_gains 90 = .ok (.iload_n 1, 1) := dk_27 (by decide +kernel)
theorem dX1_gains_91 : decode cX1_gains 91 = .ok (.imul, 1) := dk_104 (by decide +kernel)
theorem dX1_gains_92 : decode cX1_gains 92 = .ok (.ireturn, 1) := dk_172 (by decide +kernel)
theorem dX1_gains_85 : decode cX1_gains 85 = .ok (.iconst 0, 1) := dk_3 (by decide +kernel)
theorem dX1_gains_86 : decode cX1_gains 86 = .ok (.goto 6, 3) := dk_167 (by decide +kernel)
theorem dX1_gains_93 : decode cX1_gains 93 = .ok (.iconst 0, 1) := dk_3 (by decide +kernel)
theorem dX1_gains_94 : decode cX1_gains 94 = .ok (.ireturn, 1) := dk_172 (by decide +kernel)
theorem dX1_gains_95 : decode cX1_gains 95 = .ok (.iload_n 1, 1) := dk_27 (by decide +kernel)
theorem dX1_gains_96 : decode cX1_gains 96 = .ok (.ireturn, 1) := dk_172 (by decide +kernel)
set_option maxRecDepth 100000 in
set_option maxHeartbeats 8000000 in
theorem x_X1_gains (l : Launch) (D : va_G) (y : wY) (ad : Nat → Nat) (x0 : Nat) (i1 : Int32) (i2 : Int32) (hx0 : Cl x0 1) (M : Mem) (K : Int32 → Mem → Prop) (h : wp_X1_gains x0 i1 i2 M K) : MI l D y ad yX1_gains (Cond.code yX1_gains cX1_gains 3 (some .int)) 1 M [.ref (ad x0), .int i1, .int i2] K := by
  refine MI_of (by decide) (Nat.le_of_ble_eq_true rfl) ?_
  intro p e s m args below meth c X hr hlocks
  delta wp_X1_gains at h
  refine j_lv (lv1 := [(0, .ref (ad x0)), (1, .int i1), (2, .int i2)]) [0, 1, 2] rfl ?_
  refine j_aload_n X 0 rfl rfl dX1_gains_0 ?_
  refine j_get X hx0.1 (wE_1 _ hx0.2) rfl awF1 0 (by decide) aw_175 rfl (v := .int (M x0 0)) rfl dX1_gains_1 ?_
  by_cases w_1 : (M x0 0) = 1
  · replace h := h.1 w_1
    refine j_tsw_in X 44 1 w_1 (by decide) (by decide) (off := 40) rfl (by decide) dX1_gains_4 ?_
    refine j_iload_n X 1 rfl rfl dX1_gains_44 ?_
    refine j_aload_n X 0 rfl rfl dX1_gains_45 ?_
    refine j_get X hx0.1 (wE_1 _ hx0.2) rfl awF1 1 (by decide) aw_176 rfl (v := .int (M x0 1)) rfl dX1_gains_46 ?_
    refine j_iadd X dX1_gains_49 ?_
    exact j_iret X hr hlocks dX1_gains_50 h
  replace h := h.2 w_1
  by_cases w_2 : (M x0 0) = 2
  · replace h := h.1 w_2
    refine j_tsw_in X 51 2 w_2 (by decide) (by decide) (off := 47) rfl (by decide) dX1_gains_4 ?_
    refine j_iconst X (v := 2) (by decide) dX1_gains_51 ?_
    refine j_iload_n X 1 rfl rfl dX1_gains_52 ?_
    refine j_imul X dX1_gains_53 ?_
    exact j_iret X hr hlocks dX1_gains_54 h
  replace h := h.2 w_2
  by_cases w_3 : (M x0 0) = 3
  · replace h := h.1 w_3
    refine j_tsw_in X 55 3 w_3 (by decide) (by decide) (off := 51) rfl (by decide) dX1_gains_4 ?_
    refine j_iload_n X 1 rfl rfl dX1_gains_55 ?_
    refine j_iconst X (v := 2) (by decide) dX1_gains_56 ?_
    refine j_idiv X (by decide) dX1_gains_57 ?_
    exact j_iret X hr hlocks dX1_gains_58 h
  replace h := h.2 w_3
  by_cases w_4 : (M x0 0) = 4
  · replace h := h.1 w_4
    refine j_tsw_in X 59 4 w_4 (by decide) (by decide) (off := 55) rfl (by decide) dX1_gains_4 ?_
    refine j_iconst X (v := 0) (by decide) dX1_gains_59 ?_
    refine j_iload_n X 1 rfl rfl dX1_gains_60 ?_
    refine j_aload_n X 0 rfl rfl dX1_gains_61 ?_
    refine j_get X hx0.1 (wE_1 _ hx0.2) rfl awF1 1 (by decide) aw_176 rfl (v := .int (M x0 1)) rfl dX1_gains_62 ?_
    refine j_iadd X dX1_gains_65 ?_
    refine j_aload_n X 0 rfl rfl dX1_gains_66 ?_
    refine j_get X hx0.1 (wE_1 _ hx0.2) rfl awF1 5 (by decide) aw_218 rfl (v := .int (M x0 5)) rfl dX1_gains_67 ?_
    refine j_bipush X (v := 10) (by decide) dX1_gains_70 ?_
    refine j_idiv X (by decide) dX1_gains_72 ?_
    refine j_isub X dX1_gains_73 ?_
    refine j_mmax X aw_219 aw_206 aw_203 aw_207 (Nat.le_of_ble_eq_true rfl) (Nat.le_of_ble_eq_true rfl) (by decide) (by decide) dX1_gains_74 ?_
    exact j_iret X hr hlocks dX1_gains_77 h
  replace h := h.2 w_4
  by_cases w_5 : (M x0 0) = 5
  · replace h := h.1 w_5
    refine j_tsw_in X 78 5 w_5 (by decide) (by decide) (off := 74) rfl (by decide) dX1_gains_4 ?_
    refine j_iload_n X 2 rfl rfl dX1_gains_78 ?_
    refine j_bipush X (v := 6) (by decide) dX1_gains_79 ?_
    refine j_irem X (by decide) dX1_gains_81 ?_
    refine j_if_ne X 89 (by decide) dX1_gains_82 (fun q_6 => ?_) (fun q_6 => ?_)
    · replace h := h.1 q_6
      refine j_iconst X (v := 2) (by decide) dX1_gains_89 ?_
      refine j_iload_n X 1 rfl rfl dX1_gains_90 ?_
      refine j_imul X dX1_gains_91 ?_
      exact j_iret X hr hlocks dX1_gains_92 h
    · replace h := h.2 q_6
      refine j_iconst X (v := 0) (by decide) dX1_gains_85 ?_
      refine j_goto X 92 (by decide) dX1_gains_86 ?_
      exact j_iret X hr hlocks dX1_gains_92 h
  replace h := h.2 w_5
  by_cases w_7 : (M x0 0) = 6
  · replace h := h.1 w_7
    refine j_tsw_in X 93 6 w_7 (by decide) (by decide) (off := 89) rfl (by decide) dX1_gains_4 ?_
    refine j_iconst X (v := 0) (by decide) dX1_gains_93 ?_
    exact j_iret X hr hlocks dX1_gains_94 h
  replace h := h.2 w_7
  have qw_1 := ti_ne (n := 1) (by decide) w_1
  have qw_2 := ti_ne (n := 2) (by decide) w_2
  have qw_3 := ti_ne (n := 3) (by decide) w_3
  have qw_4 := ti_ne (n := 4) (by decide) w_4
  have qw_5 := ti_ne (n := 5) (by decide) w_5
  have qw_7 := ti_ne (n := 6) (by decide) w_7
  refine j_tsw_out X 95 (by omega) (by decide) dX1_gains_4 ?_
  refine j_iload_n X 1 rfl rfl dX1_gains_95 ?_
  exact j_iret X hr hlocks dX1_gains_96 h
theorem dX0_gainsOf_0 : decode cX0_gainsOf 0 = .ok (.aload_n 1, 1) := dk_43 (by decide +kernel)
theorem dX0_gainsOf_1 : decode cX0_gainsOf 1 = .ok (.aload_n 0, 1) := dk_42 (by decide +kernel)
theorem dX0_gainsOf_2 : decode cX0_gainsOf 2 = .ok (.getfield 21, 3) := dk_180 (by decide +kernel)
theorem dX0_gainsOf_5 : decode cX0_gainsOf 5 = .ok (.aload_n 1, 1) := dk_43 (by decide +kernel)
theorem dX0_gainsOf_6 : decode cX0_gainsOf 6 = .ok (.getfield 65, 3) := dk_180 (by decide +kernel)
theorem dX0_gainsOf_9 : decode cX0_gainsOf 9 = .ok (.aload_n 1, 1) := dk_43 (by decide +kernel)
theorem dX0_gainsOf_10 : decode cX0_gainsOf 10 = .ok (.getfield 87, 3) := dk_180 (by decide +kernel)
theorem dX0_gainsOf_13 : decode cX0_gainsOf 13 = .ok (.aload_n 0, 1) := dk_42 (by decide +kernel)
theorem dX0_gainsOf_14 : decode cX0_gainsOf 14 = .ok (.getfield 39, 3) := dk_180 (by decide +kernel)
theorem dX0_gainsOf_17 : decode cX0_gainsOf 17 = .ok (.bipush 7, 2) := dk_16 (by decide +kernel)
theorem dX0_gainsOf_19 : decode cX0_gainsOf 19 = .ok (.irem, 1) := dk_112 (by decide +kernel)
theorem dX0_gainsOf_20 : decode cX0_gainsOf 20 = .ok (.invokevirtual 93, 3) := dk_182 (by decide +kernel)
theorem dX0_gainsOf_23 : decode cX0_gainsOf 23 = .ok (.aload_n 0, 1) := dk_42 (by decide +kernel)
theorem dX0_gainsOf_24 : decode cX0_gainsOf 24 = .ok (.getfield 39, 3) := dk_180 (by decide +kernel)
theorem dX0_gainsOf_27 : decode cX0_gainsOf 27 = .ok (.invokevirtual 105, 3) := dk_182 (by decide +kernel)
theorem dX0_gainsOf_30 : decode cX0_gainsOf 30 = .ok (.ireturn, 1) := dk_172 (by decide +kernel)
set_option maxRecDepth 100000 in
set_option maxHeartbeats 8000000 in
theorem x_X0_gainsOf (l : Launch) (D : va_G) (y : wY) (ad : Nat → Nat) (x0 : Nat) (x1 : Nat) (hx0 : Cl x0 0) (hx1 : Cl x1 1) (M : Mem) (K : Int32 → Mem → Prop) (h : wp_X0_gainsOf x0 x1 M K) : MI l D y ad yX0_gainsOf (Cond.code yX0_gainsOf cX0_gainsOf 2 (some .int)) 3 M [.ref (ad x0), .ref (ad x1)] K := by
  refine MI_of (by decide) (Nat.le_of_ble_eq_true rfl) ?_
  intro p e s m args below meth c X hr hlocks
  delta wp_X0_gainsOf at h
  refine j_lv (lv1 := [(0, .ref (ad x0)), (1, .ref (ad x1))]) [0, 1] rfl ?_
  refine j_aload_n X 1 rfl rfl dX0_gainsOf_0 ?_
  refine j_aload_n X 0 rfl rfl dX0_gainsOf_1 ?_
  refine j_get X hx0.1 (wE_0 _ hx0.2) rfl awF0 0 (by decide) aw_62 rfl (v := .ref (ad (rf x0 0))) rfl dX0_gainsOf_2 ?_
  have hk_1 := kf_0_0 hx0
  refine j_aload_n X 1 rfl rfl dX0_gainsOf_5 ?_
  refine j_getN X hx1.1 (wE_1 _ hx1.2) rfl awF1 3 (by decide) (List.mem_of_getElem? (i := 7) rfl) rfl (v := .int (M x1 3)) rfl dX0_gainsOf_6 ?_
  refine j_aload_n X 1 rfl rfl dX0_gainsOf_9 ?_
  refine j_getN X hx1.1 (wE_1 _ hx1.2) rfl awF1 5 (by decide) (List.mem_of_getElem? (i := 11) rfl) rfl (v := .int (M x1 5)) rfl dX0_gainsOf_10 ?_
  refine j_aload_n X 0 rfl rfl dX0_gainsOf_13 ?_
  refine j_get X hx0.1 (wE_0 _ hx0.2) rfl awF0 6 (by decide) aw_197 rfl (v := .int (M x0 6)) rfl dX0_gainsOf_14 ?_
  refine j_bipush X (v := 7) (by decide) dX0_gainsOf_17 ?_
  refine j_irem X (by decide) dX0_gainsOf_19 ?_
  refine j_callVNI X (nn := 3) (As := [.int (M x1 3), .int (M x1 5), .int ((M x0 6) - (M x0 6) / 7 * 7)]) (st := [.ref (ad x1)]) (ci := 4) hk_1.1 (wE_4 _ hk_1.2) rfl aw_198 aw_199 (x_X4_gives l D y ad (rf x0 0) (M x1 3) (M x1 5) ((M x0 6) - (M x0 6) / 7 * 7) hk_1 _ _ h) (List.mem_of_getElem? (i := 14) rfl) aw_200 aw_41 (by decide +kernel) ⟨Nat.le_of_ble_eq_true rfl, Nat.le_of_ble_eq_true rfl⟩ rfl (Nat.le_of_ble_eq_true rfl) ⟨Nat.le_of_ble_eq_true rfl, Nat.le_of_ble_eq_true rfl⟩ dX0_gainsOf_20 ?_
  intro r2 M2 h
  refine j_aload_n X 0 rfl rfl dX0_gainsOf_23 ?_
  refine j_get X hx0.1 (wE_0 _ hx0.2) rfl awF0 6 (by decide) aw_197 rfl (v := .int (M2 x0 6)) rfl dX0_gainsOf_24 ?_
  refine j_callVNI X (nn := 2) (As := [.int r2, .int (M2 x0 6)]) (st := []) (ci := 1) hx1.1 (wE_1 _ hx1.2) rfl aw_215 aw_216 (x_X1_gains l D y ad x1 r2 (M2 x0 6) hx1 _ _ h) (List.mem_of_getElem? (i := 15) rfl) aw_217 aw_65 (by decide +kernel) ⟨Nat.le_of_ble_eq_true rfl, Nat.le_of_ble_eq_true rfl⟩ rfl (Nat.le_of_ble_eq_true rfl) ⟨Nat.le_of_ble_eq_true rfl, Nat.le_of_ble_eq_true rfl⟩ dX0_gainsOf_27 ?_
  intro r3 M3 h
  exact j_iret X hr hlocks dX0_gainsOf_30 h
theorem dX0_grindArea_2 : decode cX0_grindArea 2 = .ok (.iload_n 1, 1) := dk_27 (by decide +kernel)
theorem dX0_grindArea_3 : decode cX0_grindArea 3 = .ok (.aload_n 0, 1) := dk_42 (by decide +kernel)
theorem dX0_grindArea_4 : decode cX0_grindArea 4 = .ok (.getfield 29, 3) := dk_180 (by decide +kernel)
theorem dX0_grindArea_7 : decode cX0_grindArea 7 = .ok (.if_icmp .ge 68, 3) := dk_162 (by decide +kernel)
theorem dX0_grindArea_75 : decode cX0_grindArea 75 = .ok (.return_, 1) := dk_177 (by decide +kernel)
theorem dX0_grindArea_10 : decode cX0_grindArea 10 = .ok (.aload_n 0, 1) := dk_42 (by decide +kernel)
theorem dX0_grindArea_11 : decode cX0_grindArea 11 = .ok (.getfield 11, 3) := dk_180 (by decide +kernel)
theorem dX0_grindArea_14 : decode cX0_grindArea 14 = .ok (.iload_n 1, 1) := dk_27 (by decide +kernel)
theorem dX0_grindArea_15 : decode cX0_grindArea 15 = .ok (.aaload, 1) := dk_50 (by decide +kernel)
theorem dX0_grindArea_16 : decode cX0_grindArea 16 = .ok (.astore_n 2, 1) := dk_77 (by decide +kernel)
theorem dX0_grindArea_17 : decode cX0_grindArea 17 = .ok (.aload_n 2, 1) := dk_44 (by decide +kernel)
theorem dX0_grindArea_18 : decode cX0_grindArea 18 = .ok (.getfield 58, 3) := dk_180 (by decide +kernel)
theorem dX0_grindArea_21 : decode cX0_grindArea 21 = .ok (.aload_n 0, 1) := dk_42 (by decide +kernel)
theorem dX0_grindArea_22 : decode cX0_grindArea 22 = .ok (.getfield 36, 3) := dk_180 (by decide +kernel)
theorem dX0_grindArea_25 : decode cX0_grindArea 25 = .ok (.if_icmp .ne 44, 3) := dk_160 (by decide +kernel)
theorem dX0_grindArea_69 : decode cX0_grindArea 69 = .ok (.iinc 1 1, 3) := dk_132 (by decide +kernel)
theorem dX0_grindArea_72 : decode cX0_grindArea 72 = .ok (.goto (-70), 3) := dk_167 (by decide +kernel)
theorem dX0_grindArea_28 : decode cX0_grindArea 28 = .ok (.aload_n 2, 1) := dk_44 (by decide +kernel)
theorem dX0_grindArea_29 : decode cX0_grindArea 29 = .ok (.getfield 61, 3) := dk_180 (by decide +kernel)
theorem dX0_grindArea_32 : decode cX0_grindArea 32 = .ok (.ifCond .ne 37, 3) := dk_154 (by decide +kernel)
theorem dX0_grindArea_35 : decode cX0_grindArea 35 = .ok (.aload_n 2, 1) := dk_44 (by decide +kernel)
theorem dX0_grindArea_36 : decode cX0_grindArea 36 = .ok (.bipush 99, 2) := dk_16 (by decide +kernel)
theorem dX0_grindArea_38 : decode cX0_grindArea 38 = .ok (.aload_n 2, 1) := dk_44 (by decide +kernel)
theorem dX0_grindArea_39 : decode cX0_grindArea 39 = .ok (.getfield 65, 3) := dk_180 (by decide +kernel)
theorem dX0_grindArea_42 : decode cX0_grindArea 42 = .ok (.aload_n 0, 1) := dk_42 (by decide +kernel)
theorem dX0_grindArea_43 : decode cX0_grindArea 43 = .ok (.aload_n 2, 1) := dk_44 (by decide +kernel)
theorem dX0_grindArea_44 : decode cX0_grindArea 44 = .ok (.invokevirtual 68, 3) := dk_182 (by decide +kernel)
theorem dX0_grindArea_47 : decode cX0_grindArea 47 = .ok (.iadd, 1) := dk_96 (by decide +kernel)
theorem dX0_grindArea_48 : decode cX0_grindArea 48 = .ok (.invokestatic 72, 3) := dk_184 (by decide +kernel)
theorem dX0_grindArea_51 : decode cX0_grindArea 51 = .ok (.putfield 65, 3) := dk_181 (by decide +kernel)
theorem dX0_grindArea_54 : decode cX0_grindArea 54 = .ok (.aload_n 0, 1) := dk_42 (by decide +kernel)
theorem dX0_grindArea_55 : decode cX0_grindArea 55 = .ok (.ldc 78, 2) := dk_18 (by decide +kernel)
theorem dX0_grindArea_57 : decode cX0_grindArea 57 = .ok (.aload_n 0, 1) := dk_42 (by decide +kernel)
theorem dX0_grindArea_58 : decode cX0_grindArea 58 = .ok (.getfield 45, 3) := dk_180 (by decide +kernel)
theorem dX0_grindArea_61 : decode cX0_grindArea 61 = .ok (.iconst 3, 1) := dk_6 (by decide +kernel)
theorem dX0_grindArea_62 : decode cX0_grindArea 62 = .ok (.iadd, 1) := dk_96 (by decide +kernel)
theorem dX0_grindArea_63 : decode cX0_grindArea 63 = .ok (.invokestatic 72, 3) := dk_184 (by decide +kernel)
theorem dX0_grindArea_66 : decode cX0_grindArea 66 = .ok (.putfield 45, 3) := dk_181 (by decide +kernel)
theorem dX0_grindArea_0 : decode cX0_grindArea 0 = .ok (.iconst 0, 1) := dk_3 (by decide +kernel)
theorem dX0_grindArea_1 : decode cX0_grindArea 1 = .ok (.istore_n 1, 1) := dk_60 (by decide +kernel)
set_option maxRecDepth 100000 in
set_option maxHeartbeats 8000000 in
theorem x_X0_grindArea (l : Launch) (D : va_G) (y : wY) (ad : Nat → Nat) (x0 : Nat) (hx0 : Cl x0 0) (M : Mem) (K : Mem → Prop) (h : wp_X0_grindArea x0 M K) : MV l D y ad yX0_grindArea (Cond.code yX0_grindArea cX0_grindArea 3 none) 4 M [.ref (ad x0)] K := by
  refine MV_of (by decide) (Nat.le_of_ble_eq_true rfl) ?_
  intro p e s m args below meth c X hr hlocks
  have hL2 : ∀ (x0 : Nat) (hx0 : Cl x0 0) (n : Nat) (i1 : Int32) (Mb : Mem), wp_X0_grindArea_L2 K x0 n i1 Mb → J p l e (rmN 4) s m args below meth c 0 0 (QV K D y ad M s args below) D y ad (va_A (PL y ad M) s.heap.size) 3 Mb 2 [(0, .ref (ad x0)), (1, .int i1)] [] := by
    intro x0 hx0 n
    induction n with
    | zero => intro i1 Mb h; exact False.elim h
    | succ n hB2 =>
      intro i1 Mb h
      replace h : wp_X0_grindArea_l2 K x0 (wp_X0_grindArea_L2 K x0 n) i1 Mb := h
      delta wp_X0_grindArea_l2 at h
      refine j_iload_n X 1 rfl rfl dX0_grindArea_2 ?_
      refine j_aload_n X 0 rfl rfl dX0_grindArea_3 ?_
      refine j_get X hx0.1 (wE_0 _ hx0.2) rfl awF0 3 (by decide) aw_155 rfl (v := .int (Mb x0 3)) rfl dX0_grindArea_4 ?_
      refine j_icmp_ge X 75 (by decide) dX0_grindArea_7 (fun q_201 => ?_) (fun q_201 => ?_)
      · replace h := h.1 q_201
        exact j_vret X hr hlocks dX0_grindArea_75 h
      · replace h := h.2 q_201
        refine j_aload_n X 0 rfl rfl dX0_grindArea_10 ?_
        refine j_get X hx0.1 (wE_0 _ hx0.2) rfl awF0 2 (by decide) aw_60 rfl (v := .ref (ad (rf x0 2))) rfl dX0_grindArea_11 ?_
        have hk_202 := kf_0_2 hx0
        refine j_iload_n X 1 rfl rfl dX0_grindArea_14 ?_
        obtain ⟨hi_203, h⟩ := h
        refine j_aald10 X hk_202.1 hk_202.2 hi_203 dX0_grindArea_15 ?_
        have hk_204 := ke_10 hk_202 hi_203
        refine j_astore_n X [(2, .ref (ad (rf (rf x0 2) i1.toNatClampNeg))), (0, .ref (ad x0)), (1, .int i1)] rfl (by decide) rfl dX0_grindArea_16 ?_
        refine j_aload_n X 0 rfl rfl dX0_grindArea_17 ?_
        refine j_getN X hk_204.1 (wE_1 _ hk_204.2) rfl awF1 2 (by decide) (List.mem_of_getElem? (i := 5) rfl) rfl (v := .int (Mb (rf (rf x0 2) i1.toNatClampNeg) 2)) rfl dX0_grindArea_18 ?_
        refine j_aload_n X 1 rfl rfl dX0_grindArea_21 ?_
        refine j_get X hx0.1 (wE_0 _ hx0.2) rfl awF0 4 (by decide) aw_124 rfl (v := .int (Mb x0 4)) rfl dX0_grindArea_22 ?_
        refine j_icmp_ne X 69 (by decide) dX0_grindArea_25 (fun q_205 => ?_) (fun q_205 => ?_)
        · replace h := h.1 q_205
          refine j_iinc X (v := (i1 + 1)) 2 [(1, .int (i1 + 1)), (2, .ref (ad (rf (rf x0 2) i1.toNatClampNeg))), (0, .ref (ad x0))] rfl rfl (by decide) rfl dX0_grindArea_69 ?_
          refine j_goto X 2 (by decide) dX0_grindArea_72 ?_
          refine j_lv (lv1 := [(0, .ref (ad x0)), (1, .int (i1 + 1))]) [2, 0] rfl ?_
          exact hB2 _ _ h
        · replace h := h.2 q_205
          refine j_aload_n X 0 rfl rfl dX0_grindArea_28 ?_
          refine j_getN X hk_204.1 (wE_1 _ hk_204.2) rfl awF1 6 (by decide) (List.mem_of_getElem? (i := 13) rfl) rfl (v := .int (Mb (rf (rf x0 2) i1.toNatClampNeg) 6)) rfl dX0_grindArea_29 ?_
          refine j_if_ne X 69 (by decide) dX0_grindArea_32 (fun q_206 => ?_) (fun q_206 => ?_)
          · replace h := h.1 q_206
            refine j_iinc X (v := (i1 + 1)) 2 [(1, .int (i1 + 1)), (2, .ref (ad (rf (rf x0 2) i1.toNatClampNeg))), (0, .ref (ad x0))] rfl rfl (by decide) rfl dX0_grindArea_69 ?_
            refine j_goto X 2 (by decide) dX0_grindArea_72 ?_
            refine j_lv (lv1 := [(0, .ref (ad x0)), (1, .int (i1 + 1))]) [2, 0] rfl ?_
            exact hB2 _ _ h
          · replace h := h.2 q_206
            refine j_aload_n X 0 rfl rfl dX0_grindArea_35 ?_
            refine j_bipush X (v := 99) (by decide) dX0_grindArea_36 ?_
            refine j_aload_n X 0 rfl rfl dX0_grindArea_38 ?_
            refine j_getN X hk_204.1 (wE_1 _ hk_204.2) rfl awF1 3 (by decide) (List.mem_of_getElem? (i := 7) rfl) rfl (v := .int (Mb (rf (rf x0 2) i1.toNatClampNeg) 3)) rfl dX0_grindArea_39 ?_
            refine j_aload_n X 1 rfl rfl dX0_grindArea_42 ?_
            refine j_aload_n X 0 rfl rfl dX0_grindArea_43 ?_
            refine j_callVI X (nn := 1) (As := [.ref (ad (rf (rf x0 2) i1.toNatClampNeg))]) (st := [.int (Mb (rf (rf x0 2) i1.toNatClampNeg) 3), .int 99, .ref (ad (rf (rf x0 2) i1.toNatClampNeg))]) (ci := 0) hx0.1 (wE_0 _ hx0.2) rfl aw_194 aw_195 (x_X0_gainsOf l D y ad x0 (rf (rf x0 2) i1.toNatClampNeg) hx0 hk_204 _ _ h) aw_448 aw_196 aw_20 (by decide +kernel) ⟨Nat.le_of_ble_eq_true rfl, Nat.le_of_ble_eq_true rfl⟩ rfl (Nat.le_of_ble_eq_true rfl) ⟨Nat.le_of_ble_eq_true rfl, Nat.le_of_ble_eq_true rfl⟩ dX0_grindArea_44 ?_
            intro r207 M207 h
            refine j_iadd X dX0_grindArea_47 ?_
            refine j_mmin X aw_446 aw_202 aw_203 aw_204 (Nat.le_of_ble_eq_true rfl) (Nat.le_of_ble_eq_true rfl) (by decide) (by decide) dX0_grindArea_48 ?_
            refine j_putN X (up M207 (rf (rf x0 2) i1.toNatClampNeg) 3 (if ((Mb (rf (rf x0 2) i1.toNatClampNeg) 3) + r207) < 99 then ((Mb (rf (rf x0 2) i1.toNatClampNeg) 3) + r207) else 99)) up_o hk_204.1 (wE_1 _ hk_204.2) rfl awF1 3 (by decide) (wP_1_3 _ _ hk_204.2) tyX1 tyX1_ok nmX1 rfl (ty := .int) (by decide +kernel) rfl rfl (Nat.le_of_ble_eq_true rfl) (List.mem_of_getElem? (i := 7) rfl) rfl dX0_grindArea_51 ?_
            refine j_topM (fun Mg_208 eMg_208 => ?_)
            replace h := h Mg_208 eMg_208
            refine j_aload_n X 1 rfl rfl dX0_grindArea_54 ?_
            refine j_ldc X (v := 99999) aw_447 dX0_grindArea_55 ?_
            refine j_aload_n X 1 rfl rfl dX0_grindArea_57 ?_
            refine j_get X hx0.1 (wE_0 _ hx0.2) rfl awF0 8 (by decide) aw_126 rfl (v := .int (Mg_208 x0 8)) rfl dX0_grindArea_58 ?_
            refine j_iconst X (v := 3) (by decide) dX0_grindArea_61 ?_
            refine j_iadd X dX0_grindArea_62 ?_
            refine j_mmin X aw_446 aw_202 aw_203 aw_204 (Nat.le_of_ble_eq_true rfl) (Nat.le_of_ble_eq_true rfl) (by decide) (by decide) dX0_grindArea_63 ?_
            refine j_put X (up Mg_208 x0 8 (if ((Mg_208 x0 8) + 3) < 99999 then ((Mg_208 x0 8) + 3) else 99999)) up_o hx0.1 (wE_0 _ hx0.2) rfl awF0 8 (by decide) (wP_0_8 _ _ hx0.2) tyX0 tyX0_ok nmX0 rfl (ty := .int) (by decide +kernel) rfl rfl (Nat.le_of_ble_eq_true rfl) aw_126 rfl dX0_grindArea_66 ?_
            refine j_iinc X (v := (i1 + 1)) 2 [(1, .int (i1 + 1)), (2, .ref (ad (rf (rf x0 2) i1.toNatClampNeg))), (0, .ref (ad x0))] rfl rfl (by decide) rfl dX0_grindArea_69 ?_
            refine j_goto X 2 (by decide) dX0_grindArea_72 ?_
            refine j_lv (lv1 := [(0, .ref (ad x0)), (1, .int (i1 + 1))]) [2, 0] rfl ?_
            exact hB2 _ _ h
  delta wp_X0_grindArea at h
  refine j_lv (lv1 := [(0, .ref (ad x0))]) [0] rfl ?_
  refine j_iconst X (v := 0) (by decide) dX0_grindArea_0 ?_
  refine j_istore_n X [(1, .int 0), (0, .ref (ad x0))] rfl (by decide) rfl dX0_grindArea_1 ?_
  refine j_lv (lv1 := [(0, .ref (ad x0)), (1, .int 0)]) [1, 0] rfl ?_
  obtain ⟨n2, h⟩ := h
  exact hL2 _ hx0  n2 _ _ h
theorem dX0_passDay_0 : decode cX0_passDay 0 = .ok (.aload_n 0, 1) := dk_42 (by decide +kernel)
theorem dX0_passDay_1 : decode cX0_passDay 1 = .ok (.invokevirtual 48, 3) := dk_182 (by decide +kernel)
theorem dX0_passDay_4 : decode cX0_passDay 4 = .ok (.aload_n 0, 1) := dk_42 (by decide +kernel)
theorem dX0_passDay_5 : decode cX0_passDay 5 = .ok (.iload_n 1, 1) := dk_27 (by decide +kernel)
theorem dX0_passDay_6 : decode cX0_passDay 6 = .ok (.invokevirtual 51, 3) := dk_182 (by decide +kernel)
theorem dX0_passDay_9 : decode cX0_passDay 9 = .ok (.return_, 1) := dk_177 (by decide +kernel)
set_option maxRecDepth 100000 in
set_option maxHeartbeats 8000000 in
theorem x_X0_passDay (l : Launch) (D : va_G) (y : wY) (ad : Nat → Nat) (x0 : Nat) (i1 : Int32) (hx0 : Cl x0 0) (M : Mem) (K : Mem → Prop) (h : wp_X0_passDay x0 i1 M K) : MV l D y ad yX0_passDay (Cond.code yX0_passDay cX0_passDay 2 none) 5 M [.ref (ad x0), .int i1] K := by
  refine MV_of (by decide) (Nat.le_of_ble_eq_true rfl) ?_
  intro p e s m args below meth c X hr hlocks
  delta wp_X0_passDay at h
  refine j_lv (lv1 := [(0, .ref (ad x0)), (1, .int i1)]) [0, 1] rfl ?_
  refine j_aload_n X 0 rfl rfl dX0_passDay_0 ?_
  refine j_callVV X (nn := 0) (As := []) (st := []) (ci := 0) hx0.1 (wE_0 _ hx0.2) rfl aw_443 aw_444 (x_X0_grindArea l D y ad x0 hx0 _ _ h) aw_442 aw_445 aw_20 (by decide +kernel) ⟨Nat.le_of_ble_eq_true rfl, Nat.le_of_ble_eq_true rfl⟩ rfl (Nat.le_of_ble_eq_true rfl) ⟨Nat.le_of_ble_eq_true rfl, Nat.le_of_ble_eq_true rfl⟩ dX0_passDay_1 ?_
  intro M1 h
  refine j_aload_n X 0 rfl rfl dX0_passDay_4 ?_
  refine j_iload_n X 1 rfl rfl dX0_passDay_5 ?_
  refine j_callVV X (nn := 1) (As := [.int i1]) (st := []) (ci := 0) hx0.1 (wE_0 _ hx0.2) rfl aw_450 aw_451 (x_X0_restDay l D y ad x0 i1 hx0 _ _ h) aw_449 aw_452 aw_20 (by decide +kernel) ⟨Nat.le_of_ble_eq_true rfl, Nat.le_of_ble_eq_true rfl⟩ rfl (Nat.le_of_ble_eq_true rfl) ⟨Nat.le_of_ble_eq_true rfl, Nat.le_of_ble_eq_true rfl⟩ dX0_passDay_6 ?_
  intro M2 h
  exact j_vret X hr hlocks dX0_passDay_9 h
theorem dX0_sharpen_2 : decode cX0_sharpen 2 = .ok (.iload_n 2, 1) := dk_28 (by decide +kernel)
theorem dX0_sharpen_3 : decode cX0_sharpen 3 = .ok (.aload_n 0, 1) := dk_42 (by decide +kernel)
theorem dX0_sharpen_4 : decode cX0_sharpen 4 = .ok (.getfield 29, 3) := dk_180 (by decide +kernel)
theorem dX0_sharpen_7 : decode cX0_sharpen 7 = .ok (.if_icmp .ge 28, 3) := dk_162 (by decide +kernel)
theorem dX0_sharpen_35 : decode cX0_sharpen 35 = .ok (.return_, 1) := dk_177 (by decide +kernel)
theorem dX0_sharpen_10 : decode cX0_sharpen 10 = .ok (.iload_n 1, 1) := dk_27 (by decide +kernel)
theorem dX0_sharpen_11 : decode cX0_sharpen 11 = .ok (.iload_n 2, 1) := dk_28 (by decide +kernel)
theorem dX0_sharpen_12 : decode cX0_sharpen 12 = .ok (.ishr, 1) := dk_122 (by decide +kernel)
theorem dX0_sharpen_13 : decode cX0_sharpen 13 = .ok (.iconst 1, 1) := dk_4 (by decide +kernel)
theorem dX0_sharpen_14 : decode cX0_sharpen 14 = .ok (.iand, 1) := dk_126 (by decide +kernel)
theorem dX0_sharpen_15 : decode cX0_sharpen 15 = .ok (.ifCond .eq 14, 3) := dk_153 (by decide +kernel)
theorem dX0_sharpen_29 : decode cX0_sharpen 29 = .ok (.iinc 2 1, 3) := dk_132 (by decide +kernel)
theorem dX0_sharpen_32 : decode cX0_sharpen 32 = .ok (.goto (-30), 3) := dk_167 (by decide +kernel)
theorem dX0_sharpen_18 : decode cX0_sharpen 18 = .ok (.aload_n 0, 1) := dk_42 (by decide +kernel)
theorem dX0_sharpen_19 : decode cX0_sharpen 19 = .ok (.getfield 11, 3) := dk_180 (by decide +kernel)
theorem dX0_sharpen_22 : decode cX0_sharpen 22 = .ok (.iload_n 2, 1) := dk_28 (by decide +kernel)
theorem dX0_sharpen_23 : decode cX0_sharpen 23 = .ok (.aaload, 1) := dk_50 (by decide +kernel)
theorem dX0_sharpen_24 : decode cX0_sharpen 24 = .ok (.bipush 99, 2) := dk_16 (by decide +kernel)
theorem dX0_sharpen_26 : decode cX0_sharpen 26 = .ok (.putfield 65, 3) := dk_181 (by decide +kernel)
theorem dX0_sharpen_0 : decode cX0_sharpen 0 = .ok (.iconst 0, 1) := dk_3 (by decide +kernel)
theorem dX0_sharpen_1 : decode cX0_sharpen 1 = .ok (.istore_n 2, 1) := dk_61 (by decide +kernel)
set_option maxRecDepth 100000 in
set_option maxHeartbeats 8000000 in
theorem x_X0_sharpen (l : Launch) (D : va_G) (y : wY) (ad : Nat → Nat) (x0 : Nat) (i1 : Int32) (hx0 : Cl x0 0) (M : Mem) (K : Mem → Prop) (h : wp_X0_sharpen x0 i1 M K) : MV l D y ad yX0_sharpen (Cond.code yX0_sharpen cX0_sharpen 3 none) 0 M [.ref (ad x0), .int i1] K := by
  refine MV_of (by decide) (Nat.le_of_ble_eq_true rfl) ?_
  intro p e s m args below meth c X hr hlocks
  have hL2 : ∀ (x0 : Nat) (i1 : Int32) (hx0 : Cl x0 0) (n : Nat) (i2 : Int32) (Mb : Mem), wp_X0_sharpen_L2 K x0 i1 n i2 Mb → J p l e (rmN 0) s m args below meth c 0 0 (QV K D y ad M s args below) D y ad (va_A (PL y ad M) s.heap.size) 3 Mb 2 [(0, .ref (ad x0)), (1, .int i1), (2, .int i2)] [] := by
    intro x0 i1 hx0 n
    induction n with
    | zero => intro i2 Mb h; exact False.elim h
    | succ n hB2 =>
      intro i2 Mb h
      replace h : wp_X0_sharpen_l2 K x0 i1 (wp_X0_sharpen_L2 K x0 i1 n) i2 Mb := h
      delta wp_X0_sharpen_l2 at h
      refine j_iload_n X 2 rfl rfl dX0_sharpen_2 ?_
      refine j_aload_n X 0 rfl rfl dX0_sharpen_3 ?_
      refine j_get X hx0.1 (wE_0 _ hx0.2) rfl awF0 3 (by decide) aw_155 rfl (v := .int (Mb x0 3)) rfl dX0_sharpen_4 ?_
      refine j_icmp_ge X 35 (by decide) dX0_sharpen_7 (fun q_201 => ?_) (fun q_201 => ?_)
      · replace h := h.1 q_201
        exact j_vret X hr hlocks dX0_sharpen_35 h
      · replace h := h.2 q_201
        refine j_iload_n X 1 rfl rfl dX0_sharpen_10 ?_
        refine j_iload_n X 2 rfl rfl dX0_sharpen_11 ?_
        refine j_ishr X dX0_sharpen_12 ?_
        refine j_iconst X (v := 1) (by decide) dX0_sharpen_13 ?_
        refine j_iand X dX0_sharpen_14 ?_
        refine j_if_eq X 29 (by decide) dX0_sharpen_15 (fun q_202 => ?_) (fun q_202 => ?_)
        · replace h := h.1 q_202
          refine j_iinc X (v := (i2 + 1)) 2 [(2, .int (i2 + 1)), (0, .ref (ad x0)), (1, .int i1)] rfl rfl (by decide) rfl dX0_sharpen_29 ?_
          refine j_goto X 2 (by decide) dX0_sharpen_32 ?_
          refine j_lv (lv1 := [(0, .ref (ad x0)), (1, .int i1), (2, .int (i2 + 1))]) [1, 2, 0] rfl ?_
          exact hB2 _ _ h
        · replace h := h.2 q_202
          refine j_aload_n X 0 rfl rfl dX0_sharpen_18 ?_
          refine j_get X hx0.1 (wE_0 _ hx0.2) rfl awF0 2 (by decide) aw_60 rfl (v := .ref (ad (rf x0 2))) rfl dX0_sharpen_19 ?_
          have hk_203 := kf_0_2 hx0
          refine j_iload_n X 2 rfl rfl dX0_sharpen_22 ?_
          obtain ⟨hi_204, h⟩ := h
          refine j_aald10 X hk_203.1 hk_203.2 hi_204 dX0_sharpen_23 ?_
          have hk_205 := ke_10 hk_203 hi_204
          refine j_bipush X (v := 99) (by decide) dX0_sharpen_24 ?_
          refine j_putN X (up Mb (rf (rf x0 2) i2.toNatClampNeg) 3 99) up_o hk_205.1 (wE_1 _ hk_205.2) rfl awF1 3 (by decide) (wP_1_3 _ _ hk_205.2) tyX1 tyX1_ok nmX1 rfl (ty := .int) (by decide +kernel) rfl rfl (Nat.le_of_ble_eq_true rfl) (List.mem_of_getElem? (i := 7) rfl) rfl dX0_sharpen_26 ?_
          refine j_iinc X (v := (i2 + 1)) 2 [(2, .int (i2 + 1)), (0, .ref (ad x0)), (1, .int i1)] rfl rfl (by decide) rfl dX0_sharpen_29 ?_
          refine j_goto X 2 (by decide) dX0_sharpen_32 ?_
          refine j_lv (lv1 := [(0, .ref (ad x0)), (1, .int i1), (2, .int (i2 + 1))]) [1, 2, 0] rfl ?_
          exact hB2 _ _ h
  delta wp_X0_sharpen at h
  refine j_lv (lv1 := [(0, .ref (ad x0)), (1, .int i1)]) [0, 1] rfl ?_
  refine j_iconst X (v := 0) (by decide) dX0_sharpen_0 ?_
  refine j_istore_n X [(2, .int 0), (0, .ref (ad x0)), (1, .int i1)] rfl (by decide) rfl dX0_sharpen_1 ?_
  refine j_lv (lv1 := [(0, .ref (ad x0)), (1, .int i1), (2, .int 0)]) [1, 2, 0] rfl ?_
  obtain ⟨n2, h⟩ := h
  exact hL2 _ _ hx0  n2 _ _ h
theorem dX0_hasEdges_2 : decode cX0_hasEdges 2 = .ok (.iload_n 2, 1) := dk_28 (by decide +kernel)
theorem dX0_hasEdges_3 : decode cX0_hasEdges 3 = .ok (.aload_n 0, 1) := dk_42 (by decide +kernel)
theorem dX0_hasEdges_4 : decode cX0_hasEdges 4 = .ok (.getfield 29, 3) := dk_180 (by decide +kernel)
theorem dX0_hasEdges_7 : decode cX0_hasEdges 7 = .ok (.if_icmp .ge 37, 3) := dk_162 (by decide +kernel)
theorem dX0_hasEdges_44 : decode cX0_hasEdges 44 = .ok (.iconst 1, 1) := dk_4 (by decide +kernel)
theorem dX0_hasEdges_45 : decode cX0_hasEdges 45 = .ok (.ireturn, 1) := dk_172 (by decide +kernel)
theorem dX0_hasEdges_10 : decode cX0_hasEdges 10 = .ok (.iload_n 2, 1) := dk_28 (by decide +kernel)
theorem dX0_hasEdges_11 : decode cX0_hasEdges 11 = .ok (.aload_n 1, 1) := dk_43 (by decide +kernel)
theorem dX0_hasEdges_12 : decode cX0_hasEdges 12 = .ok (.getfield 115, 3) := dk_180 (by decide +kernel)
theorem dX0_hasEdges_15 : decode cX0_hasEdges 15 = .ok (.if_icmp .ge 29, 3) := dk_162 (by decide +kernel)
theorem dX0_hasEdges_18 : decode cX0_hasEdges 18 = .ok (.aload_n 0, 1) := dk_42 (by decide +kernel)
theorem dX0_hasEdges_19 : decode cX0_hasEdges 19 = .ok (.getfield 11, 3) := dk_180 (by decide +kernel)
theorem dX0_hasEdges_22 : decode cX0_hasEdges 22 = .ok (.iload_n 2, 1) := dk_28 (by decide +kernel)
theorem dX0_hasEdges_23 : decode cX0_hasEdges 23 = .ok (.aaload, 1) := dk_50 (by decide +kernel)
theorem dX0_hasEdges_24 : decode cX0_hasEdges 24 = .ok (.getfield 65, 3) := dk_180 (by decide +kernel)
theorem dX0_hasEdges_27 : decode cX0_hasEdges 27 = .ok (.aload_n 1, 1) := dk_43 (by decide +kernel)
theorem dX0_hasEdges_28 : decode cX0_hasEdges 28 = .ok (.getfield 118, 3) := dk_180 (by decide +kernel)
theorem dX0_hasEdges_31 : decode cX0_hasEdges 31 = .ok (.iload_n 2, 1) := dk_28 (by decide +kernel)
theorem dX0_hasEdges_32 : decode cX0_hasEdges 32 = .ok (.iaload, 1) := dk_46 (by decide +kernel)
theorem dX0_hasEdges_33 : decode cX0_hasEdges 33 = .ok (.if_icmp .eq 5, 3) := dk_159 (by decide +kernel)
theorem dX0_hasEdges_38 : decode cX0_hasEdges 38 = .ok (.iinc 2 1, 3) := dk_132 (by decide +kernel)
theorem dX0_hasEdges_41 : decode cX0_hasEdges 41 = .ok (.goto (-39), 3) := dk_167 (by decide +kernel)
theorem dX0_hasEdges_36 : decode cX0_hasEdges 36 = .ok (.iconst 0, 1) := dk_3 (by decide +kernel)
theorem dX0_hasEdges_37 : decode cX0_hasEdges 37 = .ok (.ireturn, 1) := dk_172 (by decide +kernel)
theorem dX0_hasEdges_0 : decode cX0_hasEdges 0 = .ok (.iconst 0, 1) := dk_3 (by decide +kernel)
theorem dX0_hasEdges_1 : decode cX0_hasEdges 1 = .ok (.istore_n 2, 1) := dk_61 (by decide +kernel)
set_option maxRecDepth 100000 in
set_option maxHeartbeats 8000000 in
theorem x_X0_hasEdges (l : Launch) (D : va_G) (y : wY) (ad : Nat → Nat) (x0 : Nat) (x1 : Nat) (hx0 : Cl x0 0) (hx1 : Cl x1 3) (M : Mem) (K : Int32 → Mem → Prop) (h : wp_X0_hasEdges x0 x1 M K) : MI l D y ad yX0_hasEdges (Cond.code yX0_hasEdges cX0_hasEdges 3 (some .boolean)) 0 M [.ref (ad x0), .ref (ad x1)] K := by
  refine MI_of (by decide) (Nat.le_of_ble_eq_true rfl) ?_
  intro p e s m args below meth c X hr hlocks
  have hL2 : ∀ (x0 : Nat) (x1 : Nat) (hx0 : Cl x0 0) (hx1 : Cl x1 3) (n : Nat) (i2 : Int32) (Mb : Mem), wp_X0_hasEdges_L2 K x0 x1 n i2 Mb → J p l e (rmN 0) s m args below meth c 0 0 (QI K D y ad M s args below) D y ad (va_A (PL y ad M) s.heap.size) 3 Mb 2 [(0, .ref (ad x0)), (1, .ref (ad x1)), (2, .int i2)] [] := by
    intro x0 x1 hx0 hx1 n
    induction n with
    | zero => intro i2 Mb h; exact False.elim h
    | succ n hB2 =>
      intro i2 Mb h
      replace h : wp_X0_hasEdges_l2 K x0 x1 (wp_X0_hasEdges_L2 K x0 x1 n) i2 Mb := h
      delta wp_X0_hasEdges_l2 at h
      refine j_iload_n X 2 rfl rfl dX0_hasEdges_2 ?_
      refine j_aload_n X 0 rfl rfl dX0_hasEdges_3 ?_
      refine j_get X hx0.1 (wE_0 _ hx0.2) rfl awF0 3 (by decide) aw_155 rfl (v := .int (Mb x0 3)) rfl dX0_hasEdges_4 ?_
      refine j_icmp_ge X 44 (by decide) dX0_hasEdges_7 (fun q_201 => ?_) (fun q_201 => ?_)
      · replace h := h.1 q_201
        refine j_iconst X (v := 1) (by decide) dX0_hasEdges_44 ?_
        exact j_zret X hr hlocks (Or.inr rfl) dX0_hasEdges_45 h
      · replace h := h.2 q_201
        refine j_iload_n X 2 rfl rfl dX0_hasEdges_10 ?_
        refine j_aload_n X 1 rfl rfl dX0_hasEdges_11 ?_
        refine j_getN X hx1.1 (wE_3 _ hx1.2) rfl awF3 2 (by decide) (List.mem_of_getElem? (i := 35) rfl) rfl (v := .int (Mb x1 2)) rfl dX0_hasEdges_12 ?_
        refine j_icmp_ge X 44 (by decide) dX0_hasEdges_15 (fun q_202 => ?_) (fun q_202 => ?_)
        · replace h := h.1 q_202
          refine j_iconst X (v := 1) (by decide) dX0_hasEdges_44 ?_
          exact j_zret X hr hlocks (Or.inr rfl) dX0_hasEdges_45 h
        · replace h := h.2 q_202
          refine j_aload_n X 0 rfl rfl dX0_hasEdges_18 ?_
          refine j_get X hx0.1 (wE_0 _ hx0.2) rfl awF0 2 (by decide) aw_60 rfl (v := .ref (ad (rf x0 2))) rfl dX0_hasEdges_19 ?_
          have hk_203 := kf_0_2 hx0
          refine j_iload_n X 2 rfl rfl dX0_hasEdges_22 ?_
          obtain ⟨hi_204, h⟩ := h
          refine j_aald10 X hk_203.1 hk_203.2 hi_204 dX0_hasEdges_23 ?_
          have hk_205 := ke_10 hk_203 hi_204
          refine j_getN X hk_205.1 (wE_1 _ hk_205.2) rfl awF1 3 (by decide) (List.mem_of_getElem? (i := 7) rfl) rfl (v := .int (Mb (rf (rf x0 2) i2.toNatClampNeg) 3)) rfl dX0_hasEdges_24 ?_
          refine j_aload_n X 1 rfl rfl dX0_hasEdges_27 ?_
          refine j_getN X hx1.1 (wE_3 _ hx1.2) rfl awF3 0 (by decide) (List.mem_of_getElem? (i := 32) rfl) rfl (v := .ref (ad (rf x1 0))) rfl dX0_hasEdges_28 ?_
          have hk_206 := kf_3_0 hx1
          refine j_iload_n X 2 rfl rfl dX0_hasEdges_31 ?_
          obtain ⟨hi_207, h⟩ := h
          refine j_iald X hk_206.1 hk_206.2 hi_207 dX0_hasEdges_32 ?_
          refine j_icmp_eq X 38 (by decide) dX0_hasEdges_33 (fun q_208 => ?_) (fun q_208 => ?_)
          · replace h := h.1 q_208
            refine j_iinc X (v := (i2 + 1)) 2 [(2, .int (i2 + 1)), (0, .ref (ad x0)), (1, .ref (ad x1))] rfl rfl (by decide) rfl dX0_hasEdges_38 ?_
            refine j_goto X 2 (by decide) dX0_hasEdges_41 ?_
            refine j_lv (lv1 := [(0, .ref (ad x0)), (1, .ref (ad x1)), (2, .int (i2 + 1))]) [1, 2, 0] rfl ?_
            exact hB2 _ _ h
          · replace h := h.2 q_208
            refine j_iconst X (v := 0) (by decide) dX0_hasEdges_36 ?_
            exact j_zret X hr hlocks (Or.inl rfl) dX0_hasEdges_37 h
  delta wp_X0_hasEdges at h
  refine j_lv (lv1 := [(0, .ref (ad x0)), (1, .ref (ad x1))]) [0, 1] rfl ?_
  refine j_iconst X (v := 0) (by decide) dX0_hasEdges_0 ?_
  refine j_istore_n X [(2, .int 0), (0, .ref (ad x0)), (1, .ref (ad x1))] rfl (by decide) rfl dX0_hasEdges_1 ?_
  refine j_lv (lv1 := [(0, .ref (ad x0)), (1, .ref (ad x1)), (2, .int 0)]) [1, 2, 0] rfl ?_
  obtain ⟨n2, h⟩ := h
  exact hL2 _ _ hx0 hx1  n2 _ _ h
theorem dX0_edgesTogether_4 : decode cX0_edgesTogether 4 = .ok (.iload_n 2, 1) := dk_28 (by decide +kernel)
theorem dX0_edgesTogether_5 : decode cX0_edgesTogether 5 = .ok (.aload_n 0, 1) := dk_42 (by decide +kernel)
theorem dX0_edgesTogether_6 : decode cX0_edgesTogether 6 = .ok (.getfield 29, 3) := dk_180 (by decide +kernel)
theorem dX0_edgesTogether_9 : decode cX0_edgesTogether 9 = .ok (.if_icmp .ge 21, 3) := dk_162 (by decide +kernel)
theorem dX0_edgesTogether_30 : decode cX0_edgesTogether 30 = .ok (.iload_n 1, 1) := dk_27 (by decide +kernel)
theorem dX0_edgesTogether_31 : decode cX0_edgesTogether 31 = .ok (.ireturn, 1) := dk_172 (by decide +kernel)
theorem dX0_edgesTogether_12 : decode cX0_edgesTogether 12 = .ok (.iload_n 1, 1) := dk_27 (by decide +kernel)
theorem dX0_edgesTogether_13 : decode cX0_edgesTogether 13 = .ok (.aload_n 0, 1) := dk_42 (by decide +kernel)
theorem dX0_edgesTogether_14 : decode cX0_edgesTogether 14 = .ok (.getfield 11, 3) := dk_180 (by decide +kernel)
theorem dX0_edgesTogether_17 : decode cX0_edgesTogether 17 = .ok (.iload_n 2, 1) := dk_28 (by decide +kernel)
theorem dX0_edgesTogether_18 : decode cX0_edgesTogether 18 = .ok (.aaload, 1) := dk_50 (by decide +kernel)
theorem dX0_edgesTogether_19 : decode cX0_edgesTogether 19 = .ok (.getfield 65, 3) := dk_180 (by decide +kernel)
theorem dX0_edgesTogether_22 : decode cX0_edgesTogether 22 = .ok (.iadd, 1) := dk_96 (by decide +kernel)
theorem dX0_edgesTogether_23 : decode cX0_edgesTogether 23 = .ok (.istore_n 1, 1) := dk_60 (by decide +kernel)
theorem dX0_edgesTogether_24 : decode cX0_edgesTogether 24 = .ok (.iinc 2 1, 3) := dk_132 (by decide +kernel)
theorem dX0_edgesTogether_27 : decode cX0_edgesTogether 27 = .ok (.goto (-23), 3) := dk_167 (by decide +kernel)
theorem dX0_edgesTogether_0 : decode cX0_edgesTogether 0 = .ok (.iconst 0, 1) := dk_3 (by decide +kernel)
theorem dX0_edgesTogether_1 : decode cX0_edgesTogether 1 = .ok (.istore_n 1, 1) := dk_60 (by decide +kernel)
theorem dX0_edgesTogether_2 : decode cX0_edgesTogether 2 = .ok (.iconst 0, 1) := dk_3 (by decide +kernel)
theorem dX0_edgesTogether_3 : decode cX0_edgesTogether 3 = .ok (.istore_n 2, 1) := dk_61 (by decide +kernel)
set_option maxRecDepth 100000 in
set_option maxHeartbeats 8000000 in
theorem x_X0_edgesTogether (l : Launch) (D : va_G) (y : wY) (ad : Nat → Nat) (x0 : Nat) (hx0 : Cl x0 0) (M : Mem) (K : Int32 → Mem → Prop) (h : wp_X0_edgesTogether x0 M K) : MI l D y ad yX0_edgesTogether (Cond.code yX0_edgesTogether cX0_edgesTogether 3 (some .int)) 0 M [.ref (ad x0)] K := by
  refine MI_of (by decide) (Nat.le_of_ble_eq_true rfl) ?_
  intro p e s m args below meth c X hr hlocks
  have hL4 : ∀ (x0 : Nat) (hx0 : Cl x0 0) (n : Nat) (i1 : Int32) (i2 : Int32) (Mb : Mem), wp_X0_edgesTogether_L4 K x0 n i1 i2 Mb → J p l e (rmN 0) s m args below meth c 0 0 (QI K D y ad M s args below) D y ad (va_A (PL y ad M) s.heap.size) 3 Mb 4 [(0, .ref (ad x0)), (1, .int i1), (2, .int i2)] [] := by
    intro x0 hx0 n
    induction n with
    | zero => intro i1 i2 Mb h; exact False.elim h
    | succ n hB4 =>
      intro i1 i2 Mb h
      replace h : wp_X0_edgesTogether_l4 K x0 (wp_X0_edgesTogether_L4 K x0 n) i1 i2 Mb := h
      delta wp_X0_edgesTogether_l4 at h
      refine j_iload_n X 2 rfl rfl dX0_edgesTogether_4 ?_
      refine j_aload_n X 0 rfl rfl dX0_edgesTogether_5 ?_
      refine j_get X hx0.1 (wE_0 _ hx0.2) rfl awF0 3 (by decide) aw_155 rfl (v := .int (Mb x0 3)) rfl dX0_edgesTogether_6 ?_
      refine j_icmp_ge X 30 (by decide) dX0_edgesTogether_9 (fun q_401 => ?_) (fun q_401 => ?_)
      · replace h := h.1 q_401
        refine j_iload_n X 1 rfl rfl dX0_edgesTogether_30 ?_
        exact j_iret X hr hlocks dX0_edgesTogether_31 h
      · replace h := h.2 q_401
        refine j_iload_n X 1 rfl rfl dX0_edgesTogether_12 ?_
        refine j_aload_n X 0 rfl rfl dX0_edgesTogether_13 ?_
        refine j_get X hx0.1 (wE_0 _ hx0.2) rfl awF0 2 (by decide) aw_60 rfl (v := .ref (ad (rf x0 2))) rfl dX0_edgesTogether_14 ?_
        have hk_402 := kf_0_2 hx0
        refine j_iload_n X 2 rfl rfl dX0_edgesTogether_17 ?_
        obtain ⟨hi_403, h⟩ := h
        refine j_aald10 X hk_402.1 hk_402.2 hi_403 dX0_edgesTogether_18 ?_
        have hk_404 := ke_10 hk_402 hi_403
        refine j_getN X hk_404.1 (wE_1 _ hk_404.2) rfl awF1 3 (by decide) (List.mem_of_getElem? (i := 7) rfl) rfl (v := .int (Mb (rf (rf x0 2) i2.toNatClampNeg) 3)) rfl dX0_edgesTogether_19 ?_
        refine j_iadd X dX0_edgesTogether_22 ?_
        refine j_istore_n X [(1, .int (i1 + (Mb (rf (rf x0 2) i2.toNatClampNeg) 3))), (0, .ref (ad x0)), (2, .int i2)] rfl (by decide) rfl dX0_edgesTogether_23 ?_
        refine j_iinc X (v := (i2 + 1)) 2 [(2, .int (i2 + 1)), (1, .int (i1 + (Mb (rf (rf x0 2) i2.toNatClampNeg) 3))), (0, .ref (ad x0))] rfl rfl (by decide) rfl dX0_edgesTogether_24 ?_
        refine j_goto X 4 (by decide) dX0_edgesTogether_27 ?_
        refine j_lv (lv1 := [(0, .ref (ad x0)), (1, .int (i1 + (Mb (rf (rf x0 2) i2.toNatClampNeg) 3))), (2, .int (i2 + 1))]) [2, 1, 0] rfl ?_
        exact hB4 _ _ _ h
  delta wp_X0_edgesTogether at h
  refine j_lv (lv1 := [(0, .ref (ad x0))]) [0] rfl ?_
  refine j_iconst X (v := 0) (by decide) dX0_edgesTogether_0 ?_
  refine j_istore_n X [(1, .int 0), (0, .ref (ad x0))] rfl (by decide) rfl dX0_edgesTogether_1 ?_
  refine j_iconst X (v := 0) (by decide) dX0_edgesTogether_2 ?_
  refine j_istore_n X [(2, .int 0), (1, .int 0), (0, .ref (ad x0))] rfl (by decide) rfl dX0_edgesTogether_3 ?_
  refine j_lv (lv1 := [(0, .ref (ad x0)), (1, .int 0), (2, .int 0)]) [2, 1, 0] rfl ?_
  obtain ⟨n4, h⟩ := h
  exact hL4 _ hx0  n4 _ _ _ h
theorem dJ6_bitCount_0f7a4_0 : decode cJ6_bitCount_0f7a4 0 = .ok (.iload_n 0, 1) := dk_26 (by decide +kernel)
theorem dJ6_bitCount_0f7a4_1 : decode cJ6_bitCount_0f7a4 1 = .ok (.iload_n 0, 1) := dk_26 (by decide +kernel)
theorem dJ6_bitCount_0f7a4_2 : decode cJ6_bitCount_0f7a4 2 = .ok (.iconst 1, 1) := dk_4 (by decide +kernel)
theorem dJ6_bitCount_0f7a4_3 : decode cJ6_bitCount_0f7a4 3 = .ok (.iushr, 1) := dk_124 (by decide +kernel)
theorem dJ6_bitCount_0f7a4_4 : decode cJ6_bitCount_0f7a4 4 = .ok (.ldc_w 265, 3) := by decide +kernel
theorem dJ6_bitCount_0f7a4_7 : decode cJ6_bitCount_0f7a4 7 = .ok (.iand, 1) := dk_126 (by decide +kernel)
theorem dJ6_bitCount_0f7a4_8 : decode cJ6_bitCount_0f7a4 8 = .ok (.isub, 1) := dk_100 (by decide +kernel)
theorem dJ6_bitCount_0f7a4_9 : decode cJ6_bitCount_0f7a4 9 = .ok (.istore_n 0, 1) := dk_59 (by decide +kernel)
theorem dJ6_bitCount_0f7a4_10 : decode cJ6_bitCount_0f7a4 10 = .ok (.iload_n 0, 1) := dk_26 (by decide +kernel)
theorem dJ6_bitCount_0f7a4_11 : decode cJ6_bitCount_0f7a4 11 = .ok (.ldc_w 266, 3) := by decide +kernel
theorem dJ6_bitCount_0f7a4_14 : decode cJ6_bitCount_0f7a4 14 = .ok (.iand, 1) := dk_126 (by decide +kernel)
theorem dJ6_bitCount_0f7a4_15 : decode cJ6_bitCount_0f7a4 15 = .ok (.iload_n 0, 1) := dk_26 (by decide +kernel)
theorem dJ6_bitCount_0f7a4_16 : decode cJ6_bitCount_0f7a4 16 = .ok (.iconst 2, 1) := dk_5 (by decide +kernel)
theorem dJ6_bitCount_0f7a4_17 : decode cJ6_bitCount_0f7a4 17 = .ok (.iushr, 1) := dk_124 (by decide +kernel)
theorem dJ6_bitCount_0f7a4_18 : decode cJ6_bitCount_0f7a4 18 = .ok (.ldc_w 266, 3) := by decide +kernel
theorem dJ6_bitCount_0f7a4_21 : decode cJ6_bitCount_0f7a4 21 = .ok (.iand, 1) := dk_126 (by decide +kernel)
theorem dJ6_bitCount_0f7a4_22 : decode cJ6_bitCount_0f7a4 22 = .ok (.iadd, 1) := dk_96 (by decide +kernel)
theorem dJ6_bitCount_0f7a4_23 : decode cJ6_bitCount_0f7a4 23 = .ok (.istore_n 0, 1) := dk_59 (by decide +kernel)
theorem dJ6_bitCount_0f7a4_24 : decode cJ6_bitCount_0f7a4 24 = .ok (.iload_n 0, 1) := dk_26 (by decide +kernel)
theorem dJ6_bitCount_0f7a4_25 : decode cJ6_bitCount_0f7a4 25 = .ok (.iload_n 0, 1) := dk_26 (by decide +kernel)
theorem dJ6_bitCount_0f7a4_26 : decode cJ6_bitCount_0f7a4 26 = .ok (.iconst 4, 1) := dk_7 (by decide +kernel)
theorem dJ6_bitCount_0f7a4_27 : decode cJ6_bitCount_0f7a4 27 = .ok (.iushr, 1) := dk_124 (by decide +kernel)
theorem dJ6_bitCount_0f7a4_28 : decode cJ6_bitCount_0f7a4 28 = .ok (.iadd, 1) := dk_96 (by decide +kernel)
theorem dJ6_bitCount_0f7a4_29 : decode cJ6_bitCount_0f7a4 29 = .ok (.ldc_w 267, 3) := by decide +kernel
theorem dJ6_bitCount_0f7a4_32 : decode cJ6_bitCount_0f7a4 32 = .ok (.iand, 1) := dk_126 (by decide +kernel)
theorem dJ6_bitCount_0f7a4_33 : decode cJ6_bitCount_0f7a4 33 = .ok (.istore_n 0, 1) := dk_59 (by decide +kernel)
theorem dJ6_bitCount_0f7a4_34 : decode cJ6_bitCount_0f7a4 34 = .ok (.iload_n 0, 1) := dk_26 (by decide +kernel)
theorem dJ6_bitCount_0f7a4_35 : decode cJ6_bitCount_0f7a4 35 = .ok (.iload_n 0, 1) := dk_26 (by decide +kernel)
theorem dJ6_bitCount_0f7a4_36 : decode cJ6_bitCount_0f7a4 36 = .ok (.bipush 8, 2) := dk_16 (by decide +kernel)
theorem dJ6_bitCount_0f7a4_38 : decode cJ6_bitCount_0f7a4 38 = .ok (.iushr, 1) := dk_124 (by decide +kernel)
theorem dJ6_bitCount_0f7a4_39 : decode cJ6_bitCount_0f7a4 39 = .ok (.iadd, 1) := dk_96 (by decide +kernel)
theorem dJ6_bitCount_0f7a4_40 : decode cJ6_bitCount_0f7a4 40 = .ok (.istore_n 0, 1) := dk_59 (by decide +kernel)
theorem dJ6_bitCount_0f7a4_41 : decode cJ6_bitCount_0f7a4 41 = .ok (.iload_n 0, 1) := dk_26 (by decide +kernel)
theorem dJ6_bitCount_0f7a4_42 : decode cJ6_bitCount_0f7a4 42 = .ok (.iload_n 0, 1) := dk_26 (by decide +kernel)
theorem dJ6_bitCount_0f7a4_43 : decode cJ6_bitCount_0f7a4 43 = .ok (.bipush 16, 2) := dk_16 (by decide +kernel)
theorem dJ6_bitCount_0f7a4_45 : decode cJ6_bitCount_0f7a4 45 = .ok (.iushr, 1) := dk_124 (by decide +kernel)
theorem dJ6_bitCount_0f7a4_46 : decode cJ6_bitCount_0f7a4 46 = .ok (.iadd, 1) := dk_96 (by decide +kernel)
theorem dJ6_bitCount_0f7a4_47 : decode cJ6_bitCount_0f7a4 47 = .ok (.istore_n 0, 1) := dk_59 (by decide +kernel)
theorem dJ6_bitCount_0f7a4_48 : decode cJ6_bitCount_0f7a4 48 = .ok (.iload_n 0, 1) := dk_26 (by decide +kernel)
theorem dJ6_bitCount_0f7a4_49 : decode cJ6_bitCount_0f7a4 49 = .ok (.bipush 63, 2) := dk_16 (by decide +kernel)
theorem dJ6_bitCount_0f7a4_51 : decode cJ6_bitCount_0f7a4 51 = .ok (.iand, 1) := dk_126 (by decide +kernel)
theorem dJ6_bitCount_0f7a4_52 : decode cJ6_bitCount_0f7a4 52 = .ok (.ireturn, 1) := dk_172 (by decide +kernel)
set_option maxRecDepth 100000 in
set_option maxHeartbeats 8000000 in
theorem x_J6_bitCount_0f7a4 (l : Launch) (D : va_G) (y : wY) (ad : Nat → Nat) (i0 : Int32) (M : Mem) (K : Int32 → Mem → Prop) (h : wp_J6_bitCount_0f7a4 i0 M K) : MI l D y ad yJ6_bitCount_0f7a4 (Cond.code yJ6_bitCount_0f7a4 cJ6_bitCount_0f7a4 1 (some .int)) 0 M [.int i0] K := by
  refine MI_of (by decide) (Nat.le_of_ble_eq_true rfl) ?_
  intro p e s m args below meth c X hr hlocks
  delta wp_J6_bitCount_0f7a4 at h
  refine j_lv (lv1 := [(0, .int i0)]) [0] rfl ?_
  refine j_iload_n X 0 rfl rfl dJ6_bitCount_0f7a4_0 ?_
  refine j_iload_n X 0 rfl rfl dJ6_bitCount_0f7a4_1 ?_
  refine j_iconst X (v := 1) (by decide) dJ6_bitCount_0f7a4_2 ?_
  refine j_iushr X dJ6_bitCount_0f7a4_3 ?_
  refine j_ldcw X (v := 1431655765) aw_473 dJ6_bitCount_0f7a4_4 ?_
  refine j_iand X dJ6_bitCount_0f7a4_7 ?_
  refine j_isub X dJ6_bitCount_0f7a4_8 ?_
  refine j_topi (fun g_1 eg_1 => ?_)
  replace h := h g_1 eg_1
  refine j_istore_n X [(0, .int g_1)] rfl (by decide) rfl dJ6_bitCount_0f7a4_9 ?_
  refine j_iload_n X 0 rfl rfl dJ6_bitCount_0f7a4_10 ?_
  refine j_ldcw X (v := 858993459) aw_474 dJ6_bitCount_0f7a4_11 ?_
  refine j_iand X dJ6_bitCount_0f7a4_14 ?_
  refine j_iload_n X 0 rfl rfl dJ6_bitCount_0f7a4_15 ?_
  refine j_iconst X (v := 2) (by decide) dJ6_bitCount_0f7a4_16 ?_
  refine j_iushr X dJ6_bitCount_0f7a4_17 ?_
  refine j_ldcw X (v := 858993459) aw_474 dJ6_bitCount_0f7a4_18 ?_
  refine j_iand X dJ6_bitCount_0f7a4_21 ?_
  refine j_iadd X dJ6_bitCount_0f7a4_22 ?_
  refine j_topi (fun g_2 eg_2 => ?_)
  replace h := h g_2 eg_2
  refine j_istore_n X [(0, .int g_2)] rfl (by decide) rfl dJ6_bitCount_0f7a4_23 ?_
  refine j_iload_n X 0 rfl rfl dJ6_bitCount_0f7a4_24 ?_
  refine j_iload_n X 0 rfl rfl dJ6_bitCount_0f7a4_25 ?_
  refine j_iconst X (v := 4) (by decide) dJ6_bitCount_0f7a4_26 ?_
  refine j_iushr X dJ6_bitCount_0f7a4_27 ?_
  refine j_iadd X dJ6_bitCount_0f7a4_28 ?_
  refine j_ldcw X (v := 252645135) aw_475 dJ6_bitCount_0f7a4_29 ?_
  refine j_iand X dJ6_bitCount_0f7a4_32 ?_
  refine j_topi (fun g_3 eg_3 => ?_)
  replace h := h g_3 eg_3
  refine j_istore_n X [(0, .int g_3)] rfl (by decide) rfl dJ6_bitCount_0f7a4_33 ?_
  refine j_iload_n X 0 rfl rfl dJ6_bitCount_0f7a4_34 ?_
  refine j_iload_n X 0 rfl rfl dJ6_bitCount_0f7a4_35 ?_
  refine j_bipush X (v := 8) (by decide) dJ6_bitCount_0f7a4_36 ?_
  refine j_iushr X dJ6_bitCount_0f7a4_38 ?_
  refine j_iadd X dJ6_bitCount_0f7a4_39 ?_
  refine j_topi (fun g_4 eg_4 => ?_)
  replace h := h g_4 eg_4
  refine j_istore_n X [(0, .int g_4)] rfl (by decide) rfl dJ6_bitCount_0f7a4_40 ?_
  refine j_iload_n X 0 rfl rfl dJ6_bitCount_0f7a4_41 ?_
  refine j_iload_n X 0 rfl rfl dJ6_bitCount_0f7a4_42 ?_
  refine j_bipush X (v := 16) (by decide) dJ6_bitCount_0f7a4_43 ?_
  refine j_iushr X dJ6_bitCount_0f7a4_45 ?_
  refine j_iadd X dJ6_bitCount_0f7a4_46 ?_
  refine j_topi (fun g_5 eg_5 => ?_)
  replace h := h g_5 eg_5
  refine j_istore_n X [(0, .int g_5)] rfl (by decide) rfl dJ6_bitCount_0f7a4_47 ?_
  refine j_iload_n X 0 rfl rfl dJ6_bitCount_0f7a4_48 ?_
  refine j_bipush X (v := 63) (by decide) dJ6_bitCount_0f7a4_49 ?_
  refine j_iand X dJ6_bitCount_0f7a4_51 ?_
  exact j_iret X hr hlocks dJ6_bitCount_0f7a4_52 h
theorem dX0_setEnded_4 : decode cX0_setEnded 4 = .ok (.iload_n 2, 1) := dk_28 (by decide +kernel)
theorem dX0_setEnded_5 : decode cX0_setEnded 5 = .ok (.aload_n 0, 1) := dk_42 (by decide +kernel)
theorem dX0_setEnded_6 : decode cX0_setEnded 6 = .ok (.getfield 29, 3) := dk_180 (by decide +kernel)
theorem dX0_setEnded_9 : decode cX0_setEnded 9 = .ok (.if_icmp .ge 31, 3) := dk_162 (by decide +kernel)
theorem dX0_setEnded_40 : decode cX0_setEnded 40 = .ok (.iload_n 1, 1) := dk_27 (by decide +kernel)
theorem dX0_setEnded_41 : decode cX0_setEnded 41 = .ok (.ireturn, 1) := dk_172 (by decide +kernel)
theorem dX0_setEnded_12 : decode cX0_setEnded 12 = .ok (.iload_n 1, 1) := dk_27 (by decide +kernel)
theorem dX0_setEnded_13 : decode cX0_setEnded 13 = .ok (.aload_n 0, 1) := dk_42 (by decide +kernel)
theorem dX0_setEnded_14 : decode cX0_setEnded 14 = .ok (.getfield 11, 3) := dk_180 (by decide +kernel)
theorem dX0_setEnded_17 : decode cX0_setEnded 17 = .ok (.iload_n 2, 1) := dk_28 (by decide +kernel)
theorem dX0_setEnded_18 : decode cX0_setEnded 18 = .ok (.aaload, 1) := dk_50 (by decide +kernel)
theorem dX0_setEnded_19 : decode cX0_setEnded 19 = .ok (.getfield 61, 3) := dk_180 (by decide +kernel)
theorem dX0_setEnded_22 : decode cX0_setEnded 22 = .ok (.ifCond .eq 9, 3) := dk_153 (by decide +kernel)
theorem dX0_setEnded_31 : decode cX0_setEnded 31 = .ok (.iconst 0, 1) := dk_3 (by decide +kernel)
theorem dX0_setEnded_32 : decode cX0_setEnded 32 = .ok (.ior, 1) := dk_128 (by decide +kernel)
theorem dX0_setEnded_33 : decode cX0_setEnded 33 = .ok (.istore_n 1, 1) := dk_60 (by decide +kernel)
theorem dX0_setEnded_34 : decode cX0_setEnded 34 = .ok (.iinc 2 1, 3) := dk_132 (by decide +kernel)
theorem dX0_setEnded_37 : decode cX0_setEnded 37 = .ok (.goto (-33), 3) := dk_167 (by decide +kernel)
theorem dX0_setEnded_25 : decode cX0_setEnded 25 = .ok (.iconst 1, 1) := dk_4 (by decide +kernel)
theorem dX0_setEnded_26 : decode cX0_setEnded 26 = .ok (.iload_n 2, 1) := dk_28 (by decide +kernel)
theorem dX0_setEnded_27 : decode cX0_setEnded 27 = .ok (.ishl, 1) := dk_120 (by decide +kernel)
theorem dX0_setEnded_28 : decode cX0_setEnded 28 = .ok (.goto 4, 3) := dk_167 (by decide +kernel)
theorem dX0_setEnded_0 : decode cX0_setEnded 0 = .ok (.iconst 0, 1) := dk_3 (by decide +kernel)
theorem dX0_setEnded_1 : decode cX0_setEnded 1 = .ok (.istore_n 1, 1) := dk_60 (by decide +kernel)
theorem dX0_setEnded_2 : decode cX0_setEnded 2 = .ok (.iconst 0, 1) := dk_3 (by decide +kernel)
theorem dX0_setEnded_3 : decode cX0_setEnded 3 = .ok (.istore_n 2, 1) := dk_61 (by decide +kernel)
set_option maxRecDepth 100000 in
set_option maxHeartbeats 8000000 in
theorem x_X0_setEnded (l : Launch) (D : va_G) (y : wY) (ad : Nat → Nat) (x0 : Nat) (hx0 : Cl x0 0) (M : Mem) (K : Int32 → Mem → Prop) (h : wp_X0_setEnded x0 M K) : MI l D y ad yX0_setEnded (Cond.code yX0_setEnded cX0_setEnded 3 (some .int)) 0 M [.ref (ad x0)] K := by
  refine MI_of (by decide) (Nat.le_of_ble_eq_true rfl) ?_
  intro p e s m args below meth c X hr hlocks
  have hL4 : ∀ (x0 : Nat) (hx0 : Cl x0 0) (n : Nat) (i1 : Int32) (i2 : Int32) (Mb : Mem), wp_X0_setEnded_L4 K x0 n i1 i2 Mb → J p l e (rmN 0) s m args below meth c 0 0 (QI K D y ad M s args below) D y ad (va_A (PL y ad M) s.heap.size) 3 Mb 4 [(0, .ref (ad x0)), (1, .int i1), (2, .int i2)] [] := by
    intro x0 hx0 n
    induction n with
    | zero => intro i1 i2 Mb h; exact False.elim h
    | succ n hB4 =>
      intro i1 i2 Mb h
      replace h : wp_X0_setEnded_l4 K x0 (wp_X0_setEnded_L4 K x0 n) i1 i2 Mb := h
      delta wp_X0_setEnded_l4 at h
      refine j_iload_n X 2 rfl rfl dX0_setEnded_4 ?_
      refine j_aload_n X 0 rfl rfl dX0_setEnded_5 ?_
      refine j_get X hx0.1 (wE_0 _ hx0.2) rfl awF0 3 (by decide) aw_155 rfl (v := .int (Mb x0 3)) rfl dX0_setEnded_6 ?_
      refine j_icmp_ge X 40 (by decide) dX0_setEnded_9 (fun q_401 => ?_) (fun q_401 => ?_)
      · replace h := h.1 q_401
        refine j_iload_n X 1 rfl rfl dX0_setEnded_40 ?_
        exact j_iret X hr hlocks dX0_setEnded_41 h
      · replace h := h.2 q_401
        refine j_iload_n X 1 rfl rfl dX0_setEnded_12 ?_
        refine j_aload_n X 0 rfl rfl dX0_setEnded_13 ?_
        refine j_get X hx0.1 (wE_0 _ hx0.2) rfl awF0 2 (by decide) aw_60 rfl (v := .ref (ad (rf x0 2))) rfl dX0_setEnded_14 ?_
        have hk_402 := kf_0_2 hx0
        refine j_iload_n X 2 rfl rfl dX0_setEnded_17 ?_
        obtain ⟨hi_403, h⟩ := h
        refine j_aald10 X hk_402.1 hk_402.2 hi_403 dX0_setEnded_18 ?_
        have hk_404 := ke_10 hk_402 hi_403
        refine j_getN X hk_404.1 (wE_1 _ hk_404.2) rfl awF1 6 (by decide) (List.mem_of_getElem? (i := 13) rfl) rfl (v := .int (Mb (rf (rf x0 2) i2.toNatClampNeg) 6)) rfl dX0_setEnded_19 ?_
        refine j_if_eq X 31 (by decide) dX0_setEnded_22 (fun q_405 => ?_) (fun q_405 => ?_)
        · replace h := h.1 q_405
          refine j_iconst X (v := 0) (by decide) dX0_setEnded_31 ?_
          refine j_ior X dX0_setEnded_32 ?_
          refine j_istore_n X [(1, .int (i1 ||| 0)), (0, .ref (ad x0)), (2, .int i2)] rfl (by decide) rfl dX0_setEnded_33 ?_
          refine j_iinc X (v := (i2 + 1)) 2 [(2, .int (i2 + 1)), (1, .int (i1 ||| 0)), (0, .ref (ad x0))] rfl rfl (by decide) rfl dX0_setEnded_34 ?_
          refine j_goto X 4 (by decide) dX0_setEnded_37 ?_
          refine j_lv (lv1 := [(0, .ref (ad x0)), (1, .int (i1 ||| 0)), (2, .int (i2 + 1))]) [2, 1, 0] rfl ?_
          exact hB4 _ _ _ h
        · replace h := h.2 q_405
          refine j_iconst X (v := 1) (by decide) dX0_setEnded_25 ?_
          refine j_iload_n X 2 rfl rfl dX0_setEnded_26 ?_
          refine j_ishl X dX0_setEnded_27 ?_
          refine j_goto X 32 (by decide) dX0_setEnded_28 ?_
          refine j_ior X dX0_setEnded_32 ?_
          refine j_istore_n X [(1, .int (i1 ||| ((1 : Int32) <<< (i2 &&& 31)))), (0, .ref (ad x0)), (2, .int i2)] rfl (by decide) rfl dX0_setEnded_33 ?_
          refine j_iinc X (v := (i2 + 1)) 2 [(2, .int (i2 + 1)), (1, .int (i1 ||| ((1 : Int32) <<< (i2 &&& 31)))), (0, .ref (ad x0))] rfl rfl (by decide) rfl dX0_setEnded_34 ?_
          refine j_goto X 4 (by decide) dX0_setEnded_37 ?_
          refine j_lv (lv1 := [(0, .ref (ad x0)), (1, .int (i1 ||| ((1 : Int32) <<< (i2 &&& 31)))), (2, .int (i2 + 1))]) [2, 1, 0] rfl ?_
          exact hB4 _ _ _ h
  delta wp_X0_setEnded at h
  refine j_lv (lv1 := [(0, .ref (ad x0))]) [0] rfl ?_
  refine j_iconst X (v := 0) (by decide) dX0_setEnded_0 ?_
  refine j_istore_n X [(1, .int 0), (0, .ref (ad x0))] rfl (by decide) rfl dX0_setEnded_1 ?_
  refine j_iconst X (v := 0) (by decide) dX0_setEnded_2 ?_
  refine j_istore_n X [(2, .int 0), (1, .int 0), (0, .ref (ad x0))] rfl (by decide) rfl dX0_setEnded_3 ?_
  refine j_lv (lv1 := [(0, .ref (ad x0)), (1, .int 0), (2, .int 0)]) [2, 1, 0] rfl ?_
  obtain ⟨n4, h⟩ := h
  exact hL4 _ hx0  n4 _ _ _ h
theorem dX0_endedMany_0 : decode cX0_endedMany 0 = .ok (.aload_n 0, 1) := dk_42 (by decide +kernel)
theorem dX0_endedMany_1 : decode cX0_endedMany 1 = .ok (.invokevirtual 122, 3) := dk_182 (by decide +kernel)
theorem dX0_endedMany_4 : decode cX0_endedMany 4 = .ok (.invokestatic 125, 3) := dk_184 (by decide +kernel)
theorem dX0_endedMany_7 : decode cX0_endedMany 7 = .ok (.ireturn, 1) := dk_172 (by decide +kernel)
set_option maxRecDepth 100000 in
set_option maxHeartbeats 8000000 in
theorem x_X0_endedMany (l : Launch) (D : va_G) (y : wY) (ad : Nat → Nat) (x0 : Nat) (hx0 : Cl x0 0) (M : Mem) (K : Int32 → Mem → Prop) (h : wp_X0_endedMany x0 M K) : MI l D y ad yX0_endedMany (Cond.code yX0_endedMany cX0_endedMany 1 (some .int)) 1 M [.ref (ad x0)] K := by
  refine MI_of (by decide) (Nat.le_of_ble_eq_true rfl) ?_
  intro p e s m args below meth c X hr hlocks
  delta wp_X0_endedMany at h
  refine j_lv (lv1 := [(0, .ref (ad x0))]) [0] rfl ?_
  refine j_aload_n X 0 rfl rfl dX0_endedMany_0 ?_
  refine j_callVI X (nn := 0) (As := []) (st := []) (ci := 0) hx0.1 (wE_0 _ hx0.2) rfl aw_466 aw_467 (x_X0_setEnded l D y ad x0 hx0 _ _ h) aw_465 aw_468 aw_20 (by decide +kernel) ⟨Nat.le_of_ble_eq_true rfl, Nat.le_of_ble_eq_true rfl⟩ rfl (Nat.le_of_ble_eq_true rfl) ⟨Nat.le_of_ble_eq_true rfl, Nat.le_of_ble_eq_true rfl⟩ dX0_endedMany_1 ?_
  intro r1 M1 h
  refine j_callSI X (nn := 1) (As := [.int r1]) (st := []) aw_470 (x_J6_bitCount_0f7a4 l D y ad r1 _ _ h) aw_469 aw_472 aw_471 (by decide +kernel) ⟨Nat.le_of_ble_eq_true rfl, Nat.le_of_ble_eq_true rfl⟩ rfl (Nat.le_of_ble_eq_true rfl) ⟨Nat.le_of_ble_eq_true rfl, Nat.le_of_ble_eq_true rfl⟩ dX0_endedMany_4 ?_
  intro r2 M2 h
  exact j_iret X hr hlocks dX0_endedMany_7 h
theorem dX0_setInArea_4 : decode cX0_setInArea 4 = .ok (.iload_n 3, 1) := dk_29 (by decide +kernel)
theorem dX0_setInArea_5 : decode cX0_setInArea 5 = .ok (.aload_n 0, 1) := dk_42 (by decide +kernel)
theorem dX0_setInArea_6 : decode cX0_setInArea 6 = .ok (.getfield 29, 3) := dk_180 (by decide +kernel)
theorem dX0_setInArea_9 : decode cX0_setInArea 9 = .ok (.if_icmp .ge 32, 3) := dk_162 (by decide +kernel)
theorem dX0_setInArea_41 : decode cX0_setInArea 41 = .ok (.iload_n 2, 1) := dk_28 (by decide +kernel)
theorem dX0_setInArea_42 : decode cX0_setInArea 42 = .ok (.ireturn, 1) := dk_172 (by decide +kernel)
theorem dX0_setInArea_12 : decode cX0_setInArea 12 = .ok (.iload_n 2, 1) := dk_28 (by decide +kernel)
theorem dX0_setInArea_13 : decode cX0_setInArea 13 = .ok (.aload_n 0, 1) := dk_42 (by decide +kernel)
theorem dX0_setInArea_14 : decode cX0_setInArea 14 = .ok (.getfield 11, 3) := dk_180 (by decide +kernel)
theorem dX0_setInArea_17 : decode cX0_setInArea 17 = .ok (.iload_n 3, 1) := dk_29 (by decide +kernel)
theorem dX0_setInArea_18 : decode cX0_setInArea 18 = .ok (.aaload, 1) := dk_50 (by decide +kernel)
theorem dX0_setInArea_19 : decode cX0_setInArea 19 = .ok (.getfield 58, 3) := dk_180 (by decide +kernel)
theorem dX0_setInArea_22 : decode cX0_setInArea 22 = .ok (.iload_n 1, 1) := dk_27 (by decide +kernel)
theorem dX0_setInArea_23 : decode cX0_setInArea 23 = .ok (.if_icmp .ne 9, 3) := dk_160 (by decide +kernel)
theorem dX0_setInArea_32 : decode cX0_setInArea 32 = .ok (.iconst 0, 1) := dk_3 (by decide +kernel)
theorem dX0_setInArea_33 : decode cX0_setInArea 33 = .ok (.ior, 1) := dk_128 (by decide +kernel)
theorem dX0_setInArea_34 : decode cX0_setInArea 34 = .ok (.istore_n 2, 1) := dk_61 (by decide +kernel)
theorem dX0_setInArea_35 : decode cX0_setInArea 35 = .ok (.iinc 3 1, 3) := dk_132 (by decide +kernel)
theorem dX0_setInArea_38 : decode cX0_setInArea 38 = .ok (.goto (-34), 3) := dk_167 (by decide +kernel)
theorem dX0_setInArea_26 : decode cX0_setInArea 26 = .ok (.iconst 1, 1) := dk_4 (by decide +kernel)
theorem dX0_setInArea_27 : decode cX0_setInArea 27 = .ok (.iload_n 3, 1) := dk_29 (by decide +kernel)
theorem dX0_setInArea_28 : decode cX0_setInArea 28 = .ok (.ishl, 1) := dk_120 (by decide +kernel)
theorem dX0_setInArea_29 : decode cX0_setInArea 29 = .ok (.goto 4, 3) := dk_167 (by decide +kernel)
theorem dX0_setInArea_0 : decode cX0_setInArea 0 = .ok (.iconst 0, 1) := dk_3 (by decide +kernel)
theorem dX0_setInArea_1 : decode cX0_setInArea 1 = .ok (.istore_n 2, 1) := dk_61 (by decide +kernel)
theorem dX0_setInArea_2 : decode cX0_setInArea 2 = .ok (.iconst 0, 1) := dk_3 (by decide +kernel)
theorem dX0_setInArea_3 : decode cX0_setInArea 3 = .ok (.istore_n 3, 1) := dk_62 (by decide +kernel)
set_option maxRecDepth 100000 in
set_option maxHeartbeats 8000000 in
theorem x_X0_setInArea (l : Launch) (D : va_G) (y : wY) (ad : Nat → Nat) (x0 : Nat) (i1 : Int32) (hx0 : Cl x0 0) (M : Mem) (K : Int32 → Mem → Prop) (h : wp_X0_setInArea x0 i1 M K) : MI l D y ad yX0_setInArea (Cond.code yX0_setInArea cX0_setInArea 4 (some .int)) 0 M [.ref (ad x0), .int i1] K := by
  refine MI_of (by decide) (Nat.le_of_ble_eq_true rfl) ?_
  intro p e s m args below meth c X hr hlocks
  have hL4 : ∀ (x0 : Nat) (i1 : Int32) (hx0 : Cl x0 0) (n : Nat) (i2 : Int32) (i3 : Int32) (Mb : Mem), wp_X0_setInArea_L4 K x0 i1 n i2 i3 Mb → J p l e (rmN 0) s m args below meth c 0 0 (QI K D y ad M s args below) D y ad (va_A (PL y ad M) s.heap.size) 4 Mb 4 [(0, .ref (ad x0)), (1, .int i1), (2, .int i2), (3, .int i3)] [] := by
    intro x0 i1 hx0 n
    induction n with
    | zero => intro i2 i3 Mb h; exact False.elim h
    | succ n hB4 =>
      intro i2 i3 Mb h
      replace h : wp_X0_setInArea_l4 K x0 i1 (wp_X0_setInArea_L4 K x0 i1 n) i2 i3 Mb := h
      delta wp_X0_setInArea_l4 at h
      refine j_iload_n X 3 rfl rfl dX0_setInArea_4 ?_
      refine j_aload_n X 0 rfl rfl dX0_setInArea_5 ?_
      refine j_get X hx0.1 (wE_0 _ hx0.2) rfl awF0 3 (by decide) aw_155 rfl (v := .int (Mb x0 3)) rfl dX0_setInArea_6 ?_
      refine j_icmp_ge X 41 (by decide) dX0_setInArea_9 (fun q_401 => ?_) (fun q_401 => ?_)
      · replace h := h.1 q_401
        refine j_iload_n X 2 rfl rfl dX0_setInArea_41 ?_
        exact j_iret X hr hlocks dX0_setInArea_42 h
      · replace h := h.2 q_401
        refine j_iload_n X 2 rfl rfl dX0_setInArea_12 ?_
        refine j_aload_n X 0 rfl rfl dX0_setInArea_13 ?_
        refine j_get X hx0.1 (wE_0 _ hx0.2) rfl awF0 2 (by decide) aw_60 rfl (v := .ref (ad (rf x0 2))) rfl dX0_setInArea_14 ?_
        have hk_402 := kf_0_2 hx0
        refine j_iload_n X 3 rfl rfl dX0_setInArea_17 ?_
        obtain ⟨hi_403, h⟩ := h
        refine j_aald10 X hk_402.1 hk_402.2 hi_403 dX0_setInArea_18 ?_
        have hk_404 := ke_10 hk_402 hi_403
        refine j_getN X hk_404.1 (wE_1 _ hk_404.2) rfl awF1 2 (by decide) (List.mem_of_getElem? (i := 5) rfl) rfl (v := .int (Mb (rf (rf x0 2) i3.toNatClampNeg) 2)) rfl dX0_setInArea_19 ?_
        refine j_iload_n X 1 rfl rfl dX0_setInArea_22 ?_
        refine j_icmp_ne X 32 (by decide) dX0_setInArea_23 (fun q_405 => ?_) (fun q_405 => ?_)
        · replace h := h.1 q_405
          refine j_iconst X (v := 0) (by decide) dX0_setInArea_32 ?_
          refine j_ior X dX0_setInArea_33 ?_
          refine j_istore_n X [(2, .int (i2 ||| 0)), (0, .ref (ad x0)), (1, .int i1), (3, .int i3)] rfl (by decide) rfl dX0_setInArea_34 ?_
          refine j_iinc X (v := (i3 + 1)) 3 [(3, .int (i3 + 1)), (2, .int (i2 ||| 0)), (0, .ref (ad x0)), (1, .int i1)] rfl rfl (by decide) rfl dX0_setInArea_35 ?_
          refine j_goto X 4 (by decide) dX0_setInArea_38 ?_
          refine j_lv (lv1 := [(0, .ref (ad x0)), (1, .int i1), (2, .int (i2 ||| 0)), (3, .int (i3 + 1))]) [2, 3, 1, 0] rfl ?_
          exact hB4 _ _ _ h
        · replace h := h.2 q_405
          refine j_iconst X (v := 1) (by decide) dX0_setInArea_26 ?_
          refine j_iload_n X 3 rfl rfl dX0_setInArea_27 ?_
          refine j_ishl X dX0_setInArea_28 ?_
          refine j_goto X 33 (by decide) dX0_setInArea_29 ?_
          refine j_ior X dX0_setInArea_33 ?_
          refine j_istore_n X [(2, .int (i2 ||| ((1 : Int32) <<< (i3 &&& 31)))), (0, .ref (ad x0)), (1, .int i1), (3, .int i3)] rfl (by decide) rfl dX0_setInArea_34 ?_
          refine j_iinc X (v := (i3 + 1)) 3 [(3, .int (i3 + 1)), (2, .int (i2 ||| ((1 : Int32) <<< (i3 &&& 31)))), (0, .ref (ad x0)), (1, .int i1)] rfl rfl (by decide) rfl dX0_setInArea_35 ?_
          refine j_goto X 4 (by decide) dX0_setInArea_38 ?_
          refine j_lv (lv1 := [(0, .ref (ad x0)), (1, .int i1), (2, .int (i2 ||| ((1 : Int32) <<< (i3 &&& 31)))), (3, .int (i3 + 1))]) [2, 3, 1, 0] rfl ?_
          exact hB4 _ _ _ h
  delta wp_X0_setInArea at h
  refine j_lv (lv1 := [(0, .ref (ad x0)), (1, .int i1)]) [0, 1] rfl ?_
  refine j_iconst X (v := 0) (by decide) dX0_setInArea_0 ?_
  refine j_istore_n X [(2, .int 0), (0, .ref (ad x0)), (1, .int i1)] rfl (by decide) rfl dX0_setInArea_1 ?_
  refine j_iconst X (v := 0) (by decide) dX0_setInArea_2 ?_
  refine j_istore_n X [(3, .int 0), (2, .int 0), (0, .ref (ad x0)), (1, .int i1)] rfl (by decide) rfl dX0_setInArea_3 ?_
  refine j_lv (lv1 := [(0, .ref (ad x0)), (1, .int i1), (2, .int 0), (3, .int 0)]) [2, 3, 1, 0] rfl ?_
  obtain ⟨n4, h⟩ := h
  exact hL4 _ _ hx0  n4 _ _ _ h
theorem dX0_setFree_4 : decode cX0_setFree 4 = .ok (.iload_n 2, 1) := dk_28 (by decide +kernel)
theorem dX0_setFree_5 : decode cX0_setFree 5 = .ok (.aload_n 0, 1) := dk_42 (by decide +kernel)
theorem dX0_setFree_6 : decode cX0_setFree 6 = .ok (.getfield 29, 3) := dk_180 (by decide +kernel)
theorem dX0_setFree_9 : decode cX0_setFree 9 = .ok (.if_icmp .ge 44, 3) := dk_162 (by decide +kernel)
theorem dX0_setFree_53 : decode cX0_setFree 53 = .ok (.iload_n 1, 1) := dk_27 (by decide +kernel)
theorem dX0_setFree_54 : decode cX0_setFree 54 = .ok (.ireturn, 1) := dk_172 (by decide +kernel)
theorem dX0_setFree_12 : decode cX0_setFree 12 = .ok (.iload_n 1, 1) := dk_27 (by decide +kernel)
theorem dX0_setFree_13 : decode cX0_setFree 13 = .ok (.aload_n 0, 1) := dk_42 (by decide +kernel)
theorem dX0_setFree_14 : decode cX0_setFree 14 = .ok (.getfield 11, 3) := dk_180 (by decide +kernel)
theorem dX0_setFree_17 : decode cX0_setFree 17 = .ok (.iload_n 2, 1) := dk_28 (by decide +kernel)
theorem dX0_setFree_18 : decode cX0_setFree 18 = .ok (.aaload, 1) := dk_50 (by decide +kernel)
theorem dX0_setFree_19 : decode cX0_setFree 19 = .ok (.getfield 61, 3) := dk_180 (by decide +kernel)
theorem dX0_setFree_22 : decode cX0_setFree 22 = .ok (.ifCond .ne 22, 3) := dk_154 (by decide +kernel)
theorem dX0_setFree_44 : decode cX0_setFree 44 = .ok (.iconst 0, 1) := dk_3 (by decide +kernel)
theorem dX0_setFree_45 : decode cX0_setFree 45 = .ok (.ior, 1) := dk_128 (by decide +kernel)
theorem dX0_setFree_46 : decode cX0_setFree 46 = .ok (.istore_n 1, 1) := dk_60 (by decide +kernel)
theorem dX0_setFree_47 : decode cX0_setFree 47 = .ok (.iinc 2 1, 3) := dk_132 (by decide +kernel)
theorem dX0_setFree_50 : decode cX0_setFree 50 = .ok (.goto (-46), 3) := dk_167 (by decide +kernel)
theorem dX0_setFree_25 : decode cX0_setFree 25 = .ok (.aload_n 0, 1) := dk_42 (by decide +kernel)
theorem dX0_setFree_26 : decode cX0_setFree 26 = .ok (.aload_n 0, 1) := dk_42 (by decide +kernel)
theorem dX0_setFree_27 : decode cX0_setFree 27 = .ok (.getfield 11, 3) := dk_180 (by decide +kernel)
theorem dX0_setFree_30 : decode cX0_setFree 30 = .ok (.iload_n 2, 1) := dk_28 (by decide +kernel)
theorem dX0_setFree_31 : decode cX0_setFree 31 = .ok (.aaload, 1) := dk_50 (by decide +kernel)
theorem dX0_setFree_32 : decode cX0_setFree 32 = .ok (.invokevirtual 83, 3) := dk_182 (by decide +kernel)
theorem dX0_setFree_35 : decode cX0_setFree 35 = .ok (.ifCond .eq 9, 3) := dk_153 (by decide +kernel)
theorem dX0_setFree_38 : decode cX0_setFree 38 = .ok (.iconst 1, 1) := dk_4 (by decide +kernel)
theorem dX0_setFree_39 : decode cX0_setFree 39 = .ok (.iload_n 2, 1) := dk_28 (by decide +kernel)
theorem dX0_setFree_40 : decode cX0_setFree 40 = .ok (.ishl, 1) := dk_120 (by decide +kernel)
theorem dX0_setFree_41 : decode cX0_setFree 41 = .ok (.goto 4, 3) := dk_167 (by decide +kernel)
theorem dX0_setFree_0 : decode cX0_setFree 0 = .ok (.iconst 0, 1) := dk_3 (by decide +kernel)
theorem dX0_setFree_1 : decode cX0_setFree 1 = .ok (.istore_n 1, 1) := dk_60 (by decide +kernel)
theorem dX0_setFree_2 : decode cX0_setFree 2 = .ok (.iconst 0, 1) := dk_3 (by decide +kernel)
theorem dX0_setFree_3 : decode cX0_setFree 3 = .ok (.istore_n 2, 1) := dk_61 (by decide +kernel)
set_option maxRecDepth 100000 in
set_option maxHeartbeats 8000000 in
theorem x_X0_setFree (l : Launch) (D : va_G) (y : wY) (ad : Nat → Nat) (x0 : Nat) (hx0 : Cl x0 0) (M : Mem) (K : Int32 → Mem → Prop) (h : wp_X0_setFree x0 M K) : MI l D y ad yX0_setFree (Cond.code yX0_setFree cX0_setFree 3 (some .int)) 2 M [.ref (ad x0)] K := by
  refine MI_of (by decide) (Nat.le_of_ble_eq_true rfl) ?_
  intro p e s m args below meth c X hr hlocks
  have hL4 : ∀ (x0 : Nat) (hx0 : Cl x0 0) (n : Nat) (i1 : Int32) (i2 : Int32) (Mb : Mem), wp_X0_setFree_L4 K x0 n i1 i2 Mb → J p l e (rmN 2) s m args below meth c 0 0 (QI K D y ad M s args below) D y ad (va_A (PL y ad M) s.heap.size) 3 Mb 4 [(0, .ref (ad x0)), (1, .int i1), (2, .int i2)] [] := by
    intro x0 hx0 n
    induction n with
    | zero => intro i1 i2 Mb h; exact False.elim h
    | succ n hB4 =>
      intro i1 i2 Mb h
      replace h : wp_X0_setFree_l4 K x0 (wp_X0_setFree_L4 K x0 n) i1 i2 Mb := h
      delta wp_X0_setFree_l4 at h
      refine j_iload_n X 2 rfl rfl dX0_setFree_4 ?_
      refine j_aload_n X 0 rfl rfl dX0_setFree_5 ?_
      refine j_get X hx0.1 (wE_0 _ hx0.2) rfl awF0 3 (by decide) aw_155 rfl (v := .int (Mb x0 3)) rfl dX0_setFree_6 ?_
      refine j_icmp_ge X 53 (by decide) dX0_setFree_9 (fun q_401 => ?_) (fun q_401 => ?_)
      · replace h := h.1 q_401
        refine j_iload_n X 1 rfl rfl dX0_setFree_53 ?_
        exact j_iret X hr hlocks dX0_setFree_54 h
      · replace h := h.2 q_401
        refine j_iload_n X 1 rfl rfl dX0_setFree_12 ?_
        refine j_aload_n X 0 rfl rfl dX0_setFree_13 ?_
        refine j_get X hx0.1 (wE_0 _ hx0.2) rfl awF0 2 (by decide) aw_60 rfl (v := .ref (ad (rf x0 2))) rfl dX0_setFree_14 ?_
        have hk_402 := kf_0_2 hx0
        refine j_iload_n X 2 rfl rfl dX0_setFree_17 ?_
        obtain ⟨hi_403, h⟩ := h
        refine j_aald10 X hk_402.1 hk_402.2 hi_403 dX0_setFree_18 ?_
        have hk_404 := ke_10 hk_402 hi_403
        refine j_getN X hk_404.1 (wE_1 _ hk_404.2) rfl awF1 6 (by decide) (List.mem_of_getElem? (i := 13) rfl) rfl (v := .int (Mb (rf (rf x0 2) i2.toNatClampNeg) 6)) rfl dX0_setFree_19 ?_
        refine j_if_ne X 44 (by decide) dX0_setFree_22 (fun q_405 => ?_) (fun q_405 => ?_)
        · replace h := h.1 q_405
          refine j_iconst X (v := 0) (by decide) dX0_setFree_44 ?_
          refine j_ior X dX0_setFree_45 ?_
          refine j_istore_n X [(1, .int (i1 ||| 0)), (0, .ref (ad x0)), (2, .int i2)] rfl (by decide) rfl dX0_setFree_46 ?_
          refine j_iinc X (v := (i2 + 1)) 2 [(2, .int (i2 + 1)), (1, .int (i1 ||| 0)), (0, .ref (ad x0))] rfl rfl (by decide) rfl dX0_setFree_47 ?_
          refine j_goto X 4 (by decide) dX0_setFree_50 ?_
          refine j_lv (lv1 := [(0, .ref (ad x0)), (1, .int (i1 ||| 0)), (2, .int (i2 + 1))]) [2, 1, 0] rfl ?_
          exact hB4 _ _ _ h
        · replace h := h.2 q_405
          refine j_aload_n X 0 rfl rfl dX0_setFree_25 ?_
          refine j_aload_n X 0 rfl rfl dX0_setFree_26 ?_
          refine j_get X hx0.1 (wE_0 _ hx0.2) rfl awF0 2 (by decide) aw_60 rfl (v := .ref (ad (rf x0 2))) rfl dX0_setFree_27 ?_
          refine j_iload_n X 2 rfl rfl dX0_setFree_30 ?_
          obtain ⟨hi_406, h⟩ := h
          refine j_aald10 X hk_402.1 hk_402.2 hi_406 dX0_setFree_31 ?_
          have hk_407 := ke_10 hk_402 hi_406
          refine j_callVI X (nn := 1) (As := [.ref (ad (rf (rf x0 2) i2.toNatClampNeg))]) (st := [.int i1]) (ci := 0) hx0.1 (wE_0 _ hx0.2) rfl aw_459 aw_460 (x_X0_isFree l D y ad x0 (rf (rf x0 2) i2.toNatClampNeg) hx0 hk_407 _ _ h) aw_458 aw_461 aw_20 (by decide +kernel) ⟨Nat.le_of_ble_eq_true rfl, Nat.le_of_ble_eq_true rfl⟩ rfl (Nat.le_of_ble_eq_true rfl) ⟨Nat.le_of_ble_eq_true rfl, Nat.le_of_ble_eq_true rfl⟩ dX0_setFree_32 ?_
          intro r408 M408 h
          refine j_if_eq X 44 (by decide) dX0_setFree_35 (fun q_409 => ?_) (fun q_409 => ?_)
          · replace h := h.1 q_409
            refine j_iconst X (v := 0) (by decide) dX0_setFree_44 ?_
            refine j_ior X dX0_setFree_45 ?_
            refine j_istore_n X [(1, .int (i1 ||| 0)), (0, .ref (ad x0)), (2, .int i2)] rfl (by decide) rfl dX0_setFree_46 ?_
            refine j_iinc X (v := (i2 + 1)) 2 [(2, .int (i2 + 1)), (1, .int (i1 ||| 0)), (0, .ref (ad x0))] rfl rfl (by decide) rfl dX0_setFree_47 ?_
            refine j_goto X 4 (by decide) dX0_setFree_50 ?_
            refine j_lv (lv1 := [(0, .ref (ad x0)), (1, .int (i1 ||| 0)), (2, .int (i2 + 1))]) [2, 1, 0] rfl ?_
            exact hB4 _ _ _ h
          · replace h := h.2 q_409
            refine j_iconst X (v := 1) (by decide) dX0_setFree_38 ?_
            refine j_iload_n X 2 rfl rfl dX0_setFree_39 ?_
            refine j_ishl X dX0_setFree_40 ?_
            refine j_goto X 45 (by decide) dX0_setFree_41 ?_
            refine j_ior X dX0_setFree_45 ?_
            refine j_istore_n X [(1, .int (i1 ||| ((1 : Int32) <<< (i2 &&& 31)))), (0, .ref (ad x0)), (2, .int i2)] rfl (by decide) rfl dX0_setFree_46 ?_
            refine j_iinc X (v := (i2 + 1)) 2 [(2, .int (i2 + 1)), (1, .int (i1 ||| ((1 : Int32) <<< (i2 &&& 31)))), (0, .ref (ad x0))] rfl rfl (by decide) rfl dX0_setFree_47 ?_
            refine j_goto X 4 (by decide) dX0_setFree_50 ?_
            refine j_lv (lv1 := [(0, .ref (ad x0)), (1, .int (i1 ||| ((1 : Int32) <<< (i2 &&& 31)))), (2, .int (i2 + 1))]) [2, 1, 0] rfl ?_
            exact hB4 _ _ _ h
  delta wp_X0_setFree at h
  refine j_lv (lv1 := [(0, .ref (ad x0))]) [0] rfl ?_
  refine j_iconst X (v := 0) (by decide) dX0_setFree_0 ?_
  refine j_istore_n X [(1, .int 0), (0, .ref (ad x0))] rfl (by decide) rfl dX0_setFree_1 ?_
  refine j_iconst X (v := 0) (by decide) dX0_setFree_2 ?_
  refine j_istore_n X [(2, .int 0), (1, .int 0), (0, .ref (ad x0))] rfl (by decide) rfl dX0_setFree_3 ?_
  refine j_lv (lv1 := [(0, .ref (ad x0)), (1, .int 0), (2, .int 0)]) [2, 1, 0] rfl ?_
  obtain ⟨n4, h⟩ := h
  exact hL4 _ hx0  n4 _ _ _ h
theorem dX0_setHangingOn_6 : decode cX0_setHangingOn 6 = .ok (.iload_n 3, 1) := dk_29 (by decide +kernel)
theorem dX0_setHangingOn_7 : decode cX0_setHangingOn 7 = .ok (.aload_n 0, 1) := dk_42 (by decide +kernel)
theorem dX0_setHangingOn_8 : decode cX0_setHangingOn 8 = .ok (.getfield 29, 3) := dk_180 (by decide +kernel)
theorem dX0_setHangingOn_11 : decode cX0_setHangingOn 11 = .ok (.if_icmp .ge 46, 3) := dk_162 (by decide +kernel)
theorem dX0_setHangingOn_57 : decode cX0_setHangingOn 57 = .ok (.iload_n 2, 1) := dk_28 (by decide +kernel)
theorem dX0_setHangingOn_58 : decode cX0_setHangingOn 58 = .ok (.ireturn, 1) := dk_172 (by decide +kernel)
theorem dX0_setHangingOn_14 : decode cX0_setHangingOn 14 = .ok (.aload_n 0, 1) := dk_42 (by decide +kernel)
theorem dX0_setHangingOn_15 : decode cX0_setHangingOn 15 = .ok (.getfield 11, 3) := dk_180 (by decide +kernel)
theorem dX0_setHangingOn_18 : decode cX0_setHangingOn 18 = .ok (.iload_n 3, 1) := dk_29 (by decide +kernel)
theorem dX0_setHangingOn_19 : decode cX0_setHangingOn 19 = .ok (.aaload, 1) := dk_50 (by decide +kernel)
theorem dX0_setHangingOn_20 : decode cX0_setHangingOn 20 = .ok (.getfield 108, 3) := dk_180 (by decide +kernel)
theorem dX0_setHangingOn_23 : decode cX0_setHangingOn 23 = .ok (.istore 4, 2) := dk_54 (by decide +kernel)
theorem dX0_setHangingOn_25 : decode cX0_setHangingOn 25 = .ok (.iload 4, 2) := dk_21 (by decide +kernel)
theorem dX0_setHangingOn_27 : decode cX0_setHangingOn 27 = .ok (.iload_n 1, 1) := dk_27 (by decide +kernel)
theorem dX0_setHangingOn_28 : decode cX0_setHangingOn 28 = .ok (.if_icmp .eq 17, 3) := dk_159 (by decide +kernel)
theorem dX0_setHangingOn_45 : decode cX0_setHangingOn 45 = .ok (.iload_n 2, 1) := dk_28 (by decide +kernel)
theorem dX0_setHangingOn_46 : decode cX0_setHangingOn 46 = .ok (.iconst 1, 1) := dk_4 (by decide +kernel)
theorem dX0_setHangingOn_47 : decode cX0_setHangingOn 47 = .ok (.iload_n 3, 1) := dk_29 (by decide +kernel)
theorem dX0_setHangingOn_48 : decode cX0_setHangingOn 48 = .ok (.ishl, 1) := dk_120 (by decide +kernel)
theorem dX0_setHangingOn_49 : decode cX0_setHangingOn 49 = .ok (.ior, 1) := dk_128 (by decide +kernel)
theorem dX0_setHangingOn_50 : decode cX0_setHangingOn 50 = .ok (.istore_n 2, 1) := dk_61 (by decide +kernel)
theorem dX0_setHangingOn_51 : decode cX0_setHangingOn 51 = .ok (.iinc 3 1, 3) := dk_132 (by decide +kernel)
theorem dX0_setHangingOn_54 : decode cX0_setHangingOn 54 = .ok (.goto (-48), 3) := dk_167 (by decide +kernel)
theorem dX0_setHangingOn_31 : decode cX0_setHangingOn 31 = .ok (.iload 4, 2) := dk_21 (by decide +kernel)
theorem dX0_setHangingOn_33 : decode cX0_setHangingOn 33 = .ok (.ifCond .lt 18, 3) := dk_155 (by decide +kernel)
theorem dX0_setHangingOn_36 : decode cX0_setHangingOn 36 = .ok (.iload_n 2, 1) := dk_28 (by decide +kernel)
theorem dX0_setHangingOn_37 : decode cX0_setHangingOn 37 = .ok (.iload 4, 2) := dk_21 (by decide +kernel)
theorem dX0_setHangingOn_39 : decode cX0_setHangingOn 39 = .ok (.ishr, 1) := dk_122 (by decide +kernel)
theorem dX0_setHangingOn_40 : decode cX0_setHangingOn 40 = .ok (.iconst 1, 1) := dk_4 (by decide +kernel)
theorem dX0_setHangingOn_41 : decode cX0_setHangingOn 41 = .ok (.iand, 1) := dk_126 (by decide +kernel)
theorem dX0_setHangingOn_42 : decode cX0_setHangingOn 42 = .ok (.ifCond .eq 9, 3) := dk_153 (by decide +kernel)
theorem dX0_setHangingOn_0 : decode cX0_setHangingOn 0 = .ok (.iconst 0, 1) := dk_3 (by decide +kernel)
theorem dX0_setHangingOn_1 : decode cX0_setHangingOn 1 = .ok (.istore_n 2, 1) := dk_61 (by decide +kernel)
theorem dX0_setHangingOn_2 : decode cX0_setHangingOn 2 = .ok (.iload_n 1, 1) := dk_27 (by decide +kernel)
theorem dX0_setHangingOn_3 : decode cX0_setHangingOn 3 = .ok (.iconst 1, 1) := dk_4 (by decide +kernel)
theorem dX0_setHangingOn_4 : decode cX0_setHangingOn 4 = .ok (.iadd, 1) := dk_96 (by decide +kernel)
theorem dX0_setHangingOn_5 : decode cX0_setHangingOn 5 = .ok (.istore_n 3, 1) := dk_62 (by decide +kernel)
set_option maxRecDepth 100000 in
set_option maxHeartbeats 8000000 in
theorem x_X0_setHangingOn (l : Launch) (D : va_G) (y : wY) (ad : Nat → Nat) (x0 : Nat) (i1 : Int32) (hx0 : Cl x0 0) (M : Mem) (K : Int32 → Mem → Prop) (h : wp_X0_setHangingOn x0 i1 M K) : MI l D y ad yX0_setHangingOn (Cond.code yX0_setHangingOn cX0_setHangingOn 5 (some .int)) 0 M [.ref (ad x0), .int i1] K := by
  refine MI_of (by decide) (Nat.le_of_ble_eq_true rfl) ?_
  intro p e s m args below meth c X hr hlocks
  have hL6 : ∀ (x0 : Nat) (i1 : Int32) (hx0 : Cl x0 0) (n : Nat) (i2 : Int32) (i3 : Int32) (Mb : Mem), wp_X0_setHangingOn_L6 K x0 i1 n i2 i3 Mb → J p l e (rmN 0) s m args below meth c 0 0 (QI K D y ad M s args below) D y ad (va_A (PL y ad M) s.heap.size) 5 Mb 6 [(0, .ref (ad x0)), (1, .int i1), (2, .int i2), (3, .int i3)] [] := by
    intro x0 i1 hx0 n
    induction n with
    | zero => intro i2 i3 Mb h; exact False.elim h
    | succ n hB6 =>
      intro i2 i3 Mb h
      replace h : wp_X0_setHangingOn_l6 K x0 i1 (wp_X0_setHangingOn_L6 K x0 i1 n) i2 i3 Mb := h
      delta wp_X0_setHangingOn_l6 at h
      refine j_iload_n X 3 rfl rfl dX0_setHangingOn_6 ?_
      refine j_aload_n X 0 rfl rfl dX0_setHangingOn_7 ?_
      refine j_get X hx0.1 (wE_0 _ hx0.2) rfl awF0 3 (by decide) aw_155 rfl (v := .int (Mb x0 3)) rfl dX0_setHangingOn_8 ?_
      refine j_icmp_ge X 57 (by decide) dX0_setHangingOn_11 (fun q_601 => ?_) (fun q_601 => ?_)
      · replace h := h.1 q_601
        refine j_iload_n X 2 rfl rfl dX0_setHangingOn_57 ?_
        exact j_iret X hr hlocks dX0_setHangingOn_58 h
      · replace h := h.2 q_601
        refine j_aload_n X 0 rfl rfl dX0_setHangingOn_14 ?_
        refine j_get X hx0.1 (wE_0 _ hx0.2) rfl awF0 2 (by decide) aw_60 rfl (v := .ref (ad (rf x0 2))) rfl dX0_setHangingOn_15 ?_
        have hk_602 := kf_0_2 hx0
        refine j_iload_n X 3 rfl rfl dX0_setHangingOn_18 ?_
        obtain ⟨hi_603, h⟩ := h
        refine j_aald10 X hk_602.1 hk_602.2 hi_603 dX0_setHangingOn_19 ?_
        have hk_604 := ke_10 hk_602 hi_603
        refine j_getN X hk_604.1 (wE_1 _ hk_604.2) rfl awF1 4 (by decide) (List.mem_of_getElem? (i := 9) rfl) rfl (v := .int (Mb (rf (rf x0 2) i3.toNatClampNeg) 4)) rfl dX0_setHangingOn_20 ?_
        refine j_istore X [(4, .int (Mb (rf (rf x0 2) i3.toNatClampNeg) 4)), (0, .ref (ad x0)), (1, .int i1), (2, .int i2), (3, .int i3)] (by decide) rfl dX0_setHangingOn_23 ?_
        refine j_iload X 0 rfl dX0_setHangingOn_25 ?_
        refine j_iload_n X 2 rfl rfl dX0_setHangingOn_27 ?_
        refine j_icmp_eq X 45 (by decide) dX0_setHangingOn_28 (fun q_605 => ?_) (fun q_605 => ?_)
        · replace h := h.1 q_605
          refine j_iload_n X 3 rfl rfl dX0_setHangingOn_45 ?_
          refine j_iconst X (v := 1) (by decide) dX0_setHangingOn_46 ?_
          refine j_iload_n X 4 rfl rfl dX0_setHangingOn_47 ?_
          refine j_ishl X dX0_setHangingOn_48 ?_
          refine j_ior X dX0_setHangingOn_49 ?_
          refine j_istore_n X [(2, .int (i2 ||| ((1 : Int32) <<< (i3 &&& 31)))), (4, .int (Mb (rf (rf x0 2) i3.toNatClampNeg) 4)), (0, .ref (ad x0)), (1, .int i1), (3, .int i3)] rfl (by decide) rfl dX0_setHangingOn_50 ?_
          refine j_iinc X (v := (i3 + 1)) 4 [(3, .int (i3 + 1)), (2, .int (i2 ||| ((1 : Int32) <<< (i3 &&& 31)))), (4, .int (Mb (rf (rf x0 2) i3.toNatClampNeg) 4)), (0, .ref (ad x0)), (1, .int i1)] rfl rfl (by decide) rfl dX0_setHangingOn_51 ?_
          refine j_goto X 6 (by decide) dX0_setHangingOn_54 ?_
          refine j_lv (lv1 := [(0, .ref (ad x0)), (1, .int i1), (2, .int (i2 ||| ((1 : Int32) <<< (i3 &&& 31)))), (3, .int (i3 + 1))]) [3, 4, 1, 0] rfl ?_
          exact hB6 _ _ _ h
        · replace h := h.2 q_605
          refine j_iload X 0 rfl dX0_setHangingOn_31 ?_
          refine j_if_lt X 51 (by decide) dX0_setHangingOn_33 (fun q_606 => ?_) (fun q_606 => ?_)
          · replace h := h.1 q_606
            refine j_iinc X (v := (i3 + 1)) 4 [(3, .int (i3 + 1)), (4, .int (Mb (rf (rf x0 2) i3.toNatClampNeg) 4)), (0, .ref (ad x0)), (1, .int i1), (2, .int i2)] rfl rfl (by decide) rfl dX0_setHangingOn_51 ?_
            refine j_goto X 6 (by decide) dX0_setHangingOn_54 ?_
            refine j_lv (lv1 := [(0, .ref (ad x0)), (1, .int i1), (2, .int i2), (3, .int (i3 + 1))]) [2, 3, 4, 0] rfl ?_
            exact hB6 _ _ _ h
          · replace h := h.2 q_606
            refine j_iload_n X 3 rfl rfl dX0_setHangingOn_36 ?_
            refine j_iload X 0 rfl dX0_setHangingOn_37 ?_
            refine j_ishr X dX0_setHangingOn_39 ?_
            refine j_iconst X (v := 1) (by decide) dX0_setHangingOn_40 ?_
            refine j_iand X dX0_setHangingOn_41 ?_
            refine j_if_eq X 51 (by decide) dX0_setHangingOn_42 (fun q_607 => ?_) (fun q_607 => ?_)
            · replace h := h.1 q_607
              refine j_iinc X (v := (i3 + 1)) 4 [(3, .int (i3 + 1)), (4, .int (Mb (rf (rf x0 2) i3.toNatClampNeg) 4)), (0, .ref (ad x0)), (1, .int i1), (2, .int i2)] rfl rfl (by decide) rfl dX0_setHangingOn_51 ?_
              refine j_goto X 6 (by decide) dX0_setHangingOn_54 ?_
              refine j_lv (lv1 := [(0, .ref (ad x0)), (1, .int i1), (2, .int i2), (3, .int (i3 + 1))]) [2, 3, 4, 0] rfl ?_
              exact hB6 _ _ _ h
            · replace h := h.2 q_607
              refine j_iload_n X 3 rfl rfl dX0_setHangingOn_45 ?_
              refine j_iconst X (v := 1) (by decide) dX0_setHangingOn_46 ?_
              refine j_iload_n X 4 rfl rfl dX0_setHangingOn_47 ?_
              refine j_ishl X dX0_setHangingOn_48 ?_
              refine j_ior X dX0_setHangingOn_49 ?_
              refine j_istore_n X [(2, .int (i2 ||| ((1 : Int32) <<< (i3 &&& 31)))), (4, .int (Mb (rf (rf x0 2) i3.toNatClampNeg) 4)), (0, .ref (ad x0)), (1, .int i1), (3, .int i3)] rfl (by decide) rfl dX0_setHangingOn_50 ?_
              refine j_iinc X (v := (i3 + 1)) 4 [(3, .int (i3 + 1)), (2, .int (i2 ||| ((1 : Int32) <<< (i3 &&& 31)))), (4, .int (Mb (rf (rf x0 2) i3.toNatClampNeg) 4)), (0, .ref (ad x0)), (1, .int i1)] rfl rfl (by decide) rfl dX0_setHangingOn_51 ?_
              refine j_goto X 6 (by decide) dX0_setHangingOn_54 ?_
              refine j_lv (lv1 := [(0, .ref (ad x0)), (1, .int i1), (2, .int (i2 ||| ((1 : Int32) <<< (i3 &&& 31)))), (3, .int (i3 + 1))]) [3, 4, 1, 0] rfl ?_
              exact hB6 _ _ _ h
  delta wp_X0_setHangingOn at h
  refine j_lv (lv1 := [(0, .ref (ad x0)), (1, .int i1)]) [0, 1] rfl ?_
  refine j_iconst X (v := 0) (by decide) dX0_setHangingOn_0 ?_
  refine j_istore_n X [(2, .int 0), (0, .ref (ad x0)), (1, .int i1)] rfl (by decide) rfl dX0_setHangingOn_1 ?_
  refine j_iload_n X 2 rfl rfl dX0_setHangingOn_2 ?_
  refine j_iconst X (v := 1) (by decide) dX0_setHangingOn_3 ?_
  refine j_iadd X dX0_setHangingOn_4 ?_
  refine j_istore_n X [(3, .int (i1 + 1)), (2, .int 0), (0, .ref (ad x0)), (1, .int i1)] rfl (by decide) rfl dX0_setHangingOn_5 ?_
  refine j_lv (lv1 := [(0, .ref (ad x0)), (1, .int i1), (2, .int 0), (3, .int (i1 + 1))]) [2, 3, 1, 0] rfl ?_
  obtain ⟨n6, h⟩ := h
  exact hL6 _ _ hx0  n6 _ _ _ h
theorem dX0_setItHangsOn_6 : decode cX0_setItHangsOn 6 = .ok (.iload_n 3, 1) := dk_29 (by decide +kernel)
theorem dX0_setItHangsOn_7 : decode cX0_setItHangsOn 7 = .ok (.ifCond .le 43, 3) := dk_158 (by decide +kernel)
theorem dX0_setItHangsOn_50 : decode cX0_setItHangsOn 50 = .ok (.iload_n 2, 1) := dk_28 (by decide +kernel)
theorem dX0_setItHangsOn_51 : decode cX0_setItHangsOn 51 = .ok (.ireturn, 1) := dk_172 (by decide +kernel)
theorem dX0_setItHangsOn_10 : decode cX0_setItHangsOn 10 = .ok (.iload_n 2, 1) := dk_28 (by decide +kernel)
theorem dX0_setItHangsOn_11 : decode cX0_setItHangsOn 11 = .ok (.iload_n 3, 1) := dk_29 (by decide +kernel)
theorem dX0_setItHangsOn_12 : decode cX0_setItHangsOn 12 = .ok (.ishr, 1) := dk_122 (by decide +kernel)
theorem dX0_setItHangsOn_13 : decode cX0_setItHangsOn 13 = .ok (.iconst 1, 1) := dk_4 (by decide +kernel)
theorem dX0_setItHangsOn_14 : decode cX0_setItHangsOn 14 = .ok (.iand, 1) := dk_126 (by decide +kernel)
theorem dX0_setItHangsOn_15 : decode cX0_setItHangsOn 15 = .ok (.ifCond .eq 29, 3) := dk_153 (by decide +kernel)
theorem dX0_setItHangsOn_44 : decode cX0_setItHangsOn 44 = .ok (.iinc 3 (-1), 3) := dk_132 (by decide +kernel)
theorem dX0_setItHangsOn_47 : decode cX0_setItHangsOn 47 = .ok (.goto (-41), 3) := dk_167 (by decide +kernel)
theorem dX0_setItHangsOn_18 : decode cX0_setItHangsOn 18 = .ok (.aload_n 0, 1) := dk_42 (by decide +kernel)
theorem dX0_setItHangsOn_19 : decode cX0_setItHangsOn 19 = .ok (.getfield 11, 3) := dk_180 (by decide +kernel)
theorem dX0_setItHangsOn_22 : decode cX0_setItHangsOn 22 = .ok (.iload_n 3, 1) := dk_29 (by decide +kernel)
theorem dX0_setItHangsOn_23 : decode cX0_setItHangsOn 23 = .ok (.aaload, 1) := dk_50 (by decide +kernel)
theorem dX0_setItHangsOn_24 : decode cX0_setItHangsOn 24 = .ok (.getfield 108, 3) := dk_180 (by decide +kernel)
theorem dX0_setItHangsOn_27 : decode cX0_setItHangsOn 27 = .ok (.ifCond .lt 17, 3) := dk_155 (by decide +kernel)
theorem dX0_setItHangsOn_30 : decode cX0_setItHangsOn 30 = .ok (.iload_n 2, 1) := dk_28 (by decide +kernel)
theorem dX0_setItHangsOn_31 : decode cX0_setItHangsOn 31 = .ok (.iconst 1, 1) := dk_4 (by decide +kernel)
theorem dX0_setItHangsOn_32 : decode cX0_setItHangsOn 32 = .ok (.aload_n 0, 1) := dk_42 (by decide +kernel)
theorem dX0_setItHangsOn_33 : decode cX0_setItHangsOn 33 = .ok (.getfield 11, 3) := dk_180 (by decide +kernel)
theorem dX0_setItHangsOn_36 : decode cX0_setItHangsOn 36 = .ok (.iload_n 3, 1) := dk_29 (by decide +kernel)
theorem dX0_setItHangsOn_37 : decode cX0_setItHangsOn 37 = .ok (.aaload, 1) := dk_50 (by decide +kernel)
theorem dX0_setItHangsOn_38 : decode cX0_setItHangsOn 38 = .ok (.getfield 108, 3) := dk_180 (by decide +kernel)
theorem dX0_setItHangsOn_41 : decode cX0_setItHangsOn 41 = .ok (.ishl, 1) := dk_120 (by decide +kernel)
theorem dX0_setItHangsOn_42 : decode cX0_setItHangsOn 42 = .ok (.ior, 1) := dk_128 (by decide +kernel)
theorem dX0_setItHangsOn_43 : decode cX0_setItHangsOn 43 = .ok (.istore_n 2, 1) := dk_61 (by decide +kernel)
theorem dX0_setItHangsOn_0 : decode cX0_setItHangsOn 0 = .ok (.iconst 1, 1) := dk_4 (by decide +kernel)
theorem dX0_setItHangsOn_1 : decode cX0_setItHangsOn 1 = .ok (.iload_n 1, 1) := dk_27 (by decide +kernel)
theorem dX0_setItHangsOn_2 : decode cX0_setItHangsOn 2 = .ok (.ishl, 1) := dk_120 (by decide +kernel)
theorem dX0_setItHangsOn_3 : decode cX0_setItHangsOn 3 = .ok (.istore_n 2, 1) := dk_61 (by decide +kernel)
theorem dX0_setItHangsOn_4 : decode cX0_setItHangsOn 4 = .ok (.iload_n 1, 1) := dk_27 (by decide +kernel)
theorem dX0_setItHangsOn_5 : decode cX0_setItHangsOn 5 = .ok (.istore_n 3, 1) := dk_62 (by decide +kernel)
set_option maxRecDepth 100000 in
set_option maxHeartbeats 8000000 in
theorem x_X0_setItHangsOn (l : Launch) (D : va_G) (y : wY) (ad : Nat → Nat) (x0 : Nat) (i1 : Int32) (hx0 : Cl x0 0) (M : Mem) (K : Int32 → Mem → Prop) (h : wp_X0_setItHangsOn x0 i1 M K) : MI l D y ad yX0_setItHangsOn (Cond.code yX0_setItHangsOn cX0_setItHangsOn 4 (some .int)) 0 M [.ref (ad x0), .int i1] K := by
  refine MI_of (by decide) (Nat.le_of_ble_eq_true rfl) ?_
  intro p e s m args below meth c X hr hlocks
  have hL6 : ∀ (x0 : Nat) (hx0 : Cl x0 0) (n : Nat) (i2 : Int32) (i3 : Int32) (Mb : Mem), wp_X0_setItHangsOn_L6 K x0 n i2 i3 Mb → J p l e (rmN 0) s m args below meth c 0 0 (QI K D y ad M s args below) D y ad (va_A (PL y ad M) s.heap.size) 4 Mb 6 [(0, .ref (ad x0)), (2, .int i2), (3, .int i3)] [] := by
    intro x0 hx0 n
    induction n with
    | zero => intro i2 i3 Mb h; exact False.elim h
    | succ n hB6 =>
      intro i2 i3 Mb h
      replace h : wp_X0_setItHangsOn_l6 K x0 (wp_X0_setItHangsOn_L6 K x0 n) i2 i3 Mb := h
      delta wp_X0_setItHangsOn_l6 at h
      refine j_iload_n X 2 rfl rfl dX0_setItHangsOn_6 ?_
      refine j_if_le X 50 (by decide) dX0_setItHangsOn_7 (fun q_601 => ?_) (fun q_601 => ?_)
      · replace h := h.1 q_601
        refine j_iload_n X 1 rfl rfl dX0_setItHangsOn_50 ?_
        exact j_iret X hr hlocks dX0_setItHangsOn_51 h
      · replace h := h.2 q_601
        refine j_iload_n X 1 rfl rfl dX0_setItHangsOn_10 ?_
        refine j_iload_n X 2 rfl rfl dX0_setItHangsOn_11 ?_
        refine j_ishr X dX0_setItHangsOn_12 ?_
        refine j_iconst X (v := 1) (by decide) dX0_setItHangsOn_13 ?_
        refine j_iand X dX0_setItHangsOn_14 ?_
        refine j_if_eq X 44 (by decide) dX0_setItHangsOn_15 (fun q_602 => ?_) (fun q_602 => ?_)
        · replace h := h.1 q_602
          refine j_iinc X (v := (i3 + Int32.ofInt (-1))) 2 [(3, .int (i3 + Int32.ofInt (-1))), (0, .ref (ad x0)), (2, .int i2)] rfl rfl (by decide) rfl dX0_setItHangsOn_44 ?_
          refine j_goto X 6 (by decide) dX0_setItHangsOn_47 ?_
          refine j_lv (lv1 := [(0, .ref (ad x0)), (2, .int i2), (3, .int (i3 + Int32.ofInt (-1)))]) [1, 2, 0] rfl ?_
          exact hB6 _ _ _ h
        · replace h := h.2 q_602
          refine j_aload_n X 0 rfl rfl dX0_setItHangsOn_18 ?_
          refine j_get X hx0.1 (wE_0 _ hx0.2) rfl awF0 2 (by decide) aw_60 rfl (v := .ref (ad (rf x0 2))) rfl dX0_setItHangsOn_19 ?_
          have hk_603 := kf_0_2 hx0
          refine j_iload_n X 2 rfl rfl dX0_setItHangsOn_22 ?_
          obtain ⟨hi_604, h⟩ := h
          refine j_aald10 X hk_603.1 hk_603.2 hi_604 dX0_setItHangsOn_23 ?_
          have hk_605 := ke_10 hk_603 hi_604
          refine j_getN X hk_605.1 (wE_1 _ hk_605.2) rfl awF1 4 (by decide) (List.mem_of_getElem? (i := 9) rfl) rfl (v := .int (Mb (rf (rf x0 2) i3.toNatClampNeg) 4)) rfl dX0_setItHangsOn_24 ?_
          refine j_if_lt X 44 (by decide) dX0_setItHangsOn_27 (fun q_606 => ?_) (fun q_606 => ?_)
          · replace h := h.1 q_606
            refine j_iinc X (v := (i3 + Int32.ofInt (-1))) 2 [(3, .int (i3 + Int32.ofInt (-1))), (0, .ref (ad x0)), (2, .int i2)] rfl rfl (by decide) rfl dX0_setItHangsOn_44 ?_
            refine j_goto X 6 (by decide) dX0_setItHangsOn_47 ?_
            refine j_lv (lv1 := [(0, .ref (ad x0)), (2, .int i2), (3, .int (i3 + Int32.ofInt (-1)))]) [1, 2, 0] rfl ?_
            exact hB6 _ _ _ h
          · replace h := h.2 q_606
            refine j_iload_n X 1 rfl rfl dX0_setItHangsOn_30 ?_
            refine j_iconst X (v := 1) (by decide) dX0_setItHangsOn_31 ?_
            refine j_aload_n X 0 rfl rfl dX0_setItHangsOn_32 ?_
            refine j_get X hx0.1 (wE_0 _ hx0.2) rfl awF0 2 (by decide) aw_60 rfl (v := .ref (ad (rf x0 2))) rfl dX0_setItHangsOn_33 ?_
            refine j_iload_n X 2 rfl rfl dX0_setItHangsOn_36 ?_
            obtain ⟨hi_607, h⟩ := h
            refine j_aald10 X hk_603.1 hk_603.2 hi_607 dX0_setItHangsOn_37 ?_
            have hk_608 := ke_10 hk_603 hi_607
            refine j_getN X hk_608.1 (wE_1 _ hk_608.2) rfl awF1 4 (by decide) (List.mem_of_getElem? (i := 9) rfl) rfl (v := .int (Mb (rf (rf x0 2) i3.toNatClampNeg) 4)) rfl dX0_setItHangsOn_38 ?_
            refine j_ishl X dX0_setItHangsOn_41 ?_
            refine j_ior X dX0_setItHangsOn_42 ?_
            refine j_topi (fun g_609 eg_609 => ?_)
            replace h := h g_609 eg_609
            refine j_istore_n X [(2, .int g_609), (0, .ref (ad x0)), (3, .int i3)] rfl (by decide) rfl dX0_setItHangsOn_43 ?_
            refine j_iinc X (v := (i3 + Int32.ofInt (-1))) 2 [(3, .int (i3 + Int32.ofInt (-1))), (2, .int g_609), (0, .ref (ad x0))] rfl rfl (by decide) rfl dX0_setItHangsOn_44 ?_
            refine j_goto X 6 (by decide) dX0_setItHangsOn_47 ?_
            refine j_lv (lv1 := [(0, .ref (ad x0)), (2, .int g_609), (3, .int (i3 + Int32.ofInt (-1)))]) [2, 1, 0] rfl ?_
            exact hB6 _ _ _ h
  delta wp_X0_setItHangsOn at h
  refine j_lv (lv1 := [(0, .ref (ad x0)), (1, .int i1)]) [0, 1] rfl ?_
  refine j_iconst X (v := 1) (by decide) dX0_setItHangsOn_0 ?_
  refine j_iload_n X 1 rfl rfl dX0_setItHangsOn_1 ?_
  refine j_ishl X dX0_setItHangsOn_2 ?_
  refine j_istore_n X [(2, .int ((1 : Int32) <<< (i1 &&& 31))), (0, .ref (ad x0)), (1, .int i1)] rfl (by decide) rfl dX0_setItHangsOn_3 ?_
  refine j_iload_n X 2 rfl rfl dX0_setItHangsOn_4 ?_
  refine j_istore_n X [(3, .int i1), (2, .int ((1 : Int32) <<< (i1 &&& 31))), (0, .ref (ad x0)), (1, .int i1)] rfl (by decide) rfl dX0_setItHangsOn_5 ?_
  refine j_lv (lv1 := [(0, .ref (ad x0)), (2, .int ((1 : Int32) <<< (i1 &&& 31))), (3, .int i1)]) [2, 1, 0] rfl ?_
  obtain ⟨n6, h⟩ := h
  exact hL6 _ hx0  n6 _ _ _ h
theorem dX1_turnInto_0 : decode cX1_turnInto 0 = .ok (.aload_n 0, 1) := dk_42 (by decide +kernel)
theorem dX1_turnInto_1 : decode cX1_turnInto 1 = .ok (.iload_n 1, 1) := dk_27 (by decide +kernel)
theorem dX1_turnInto_2 : decode cX1_turnInto 2 = .ok (.bipush 10, 2) := dk_16 (by decide +kernel)
theorem dX1_turnInto_4 : decode cX1_turnInto 4 = .ok (.idiv, 1) := dk_108 (by decide +kernel)
theorem dX1_turnInto_5 : decode cX1_turnInto 5 = .ok (.putfield 9, 3) := dk_181 (by decide +kernel)
theorem dX1_turnInto_8 : decode cX1_turnInto 8 = .ok (.aload_n 0, 1) := dk_42 (by decide +kernel)
theorem dX1_turnInto_9 : decode cX1_turnInto 9 = .ok (.iload_n 1, 1) := dk_27 (by decide +kernel)
theorem dX1_turnInto_10 : decode cX1_turnInto 10 = .ok (.bipush 10, 2) := dk_16 (by decide +kernel)
theorem dX1_turnInto_12 : decode cX1_turnInto 12 = .ok (.irem, 1) := dk_112 (by decide +kernel)
theorem dX1_turnInto_13 : decode cX1_turnInto 13 = .ok (.putfield 15, 3) := dk_181 (by decide +kernel)
theorem dX1_turnInto_16 : decode cX1_turnInto 16 = .ok (.return_, 1) := dk_177 (by decide +kernel)
set_option maxRecDepth 100000 in
set_option maxHeartbeats 8000000 in
theorem x_X1_turnInto (l : Launch) (D : va_G) (y : wY) (ad : Nat → Nat) (x0 : Nat) (i1 : Int32) (hx0 : Cl x0 1) (M : Mem) (K : Mem → Prop) (h : wp_X1_turnInto x0 i1 M K) : MV l D y ad yX1_turnInto (Cond.code yX1_turnInto cX1_turnInto 2 none) 0 M [.ref (ad x0), .int i1] K := by
  refine MV_of (by decide) (Nat.le_of_ble_eq_true rfl) ?_
  intro p e s m args below meth c X hr hlocks
  delta wp_X1_turnInto at h
  refine j_lv (lv1 := [(0, .ref (ad x0)), (1, .int i1)]) [0, 1] rfl ?_
  refine j_aload_n X 0 rfl rfl dX1_turnInto_0 ?_
  refine j_iload_n X 1 rfl rfl dX1_turnInto_1 ?_
  refine j_bipush X (v := 10) (by decide) dX1_turnInto_2 ?_
  refine j_idiv X (by decide) dX1_turnInto_4 ?_
  refine j_put X (up M x0 0 (i1 / 10)) up_o hx0.1 (wE_1 _ hx0.2) rfl awF1 0 (by decide) (wP_1_0 _ _ hx0.2) tyX1 tyX1_ok nmX1 rfl (ty := .int) (by decide +kernel) rfl rfl (Nat.le_of_ble_eq_true rfl) aw_175 rfl dX1_turnInto_5 ?_
  refine j_aload_n X 0 rfl rfl dX1_turnInto_8 ?_
  refine j_iload_n X 1 rfl rfl dX1_turnInto_9 ?_
  refine j_bipush X (v := 10) (by decide) dX1_turnInto_10 ?_
  refine j_irem X (by decide) dX1_turnInto_12 ?_
  refine j_put X (up (up M x0 0 (i1 / 10)) x0 1 (i1 - i1 / 10 * 10)) up_o hx0.1 (wE_1 _ hx0.2) rfl awF1 1 (by decide) (wP_1_1 _ _ hx0.2) tyX1 tyX1_ok nmX1 rfl (ty := .int) (by decide +kernel) rfl rfl (Nat.le_of_ble_eq_true rfl) aw_176 rfl dX1_turnInto_13 ?_
  exact j_vret X hr hlocks dX1_turnInto_16 h
