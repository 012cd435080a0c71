theorem dX1_changeTo_0 : decode cX1_changeTo 0 = .ok (.iload_n 1, 1) := dk_27 (by decide +kernel)
theorem dX1_changeTo_1 : decode cX1_changeTo 1 = .ok (.tableswitch 80 0 2 #[27, 39, 51], 27) := by decide +kernel
theorem dX1_changeTo_28 : decode cX1_changeTo 28 = .ok (.aload_n 0, 1) := dk_42 (by decide +kernel)
theorem dX1_changeTo_29 : decode cX1_changeTo 29 = .ok (.getfield 18, 3) := dk_180 (by decide +kernel)
theorem dX1_changeTo_32 : decode cX1_changeTo 32 = .ok (.istore_n 3, 1) := dk_62 (by decide +kernel)
theorem dX1_changeTo_33 : decode cX1_changeTo 33 = .ok (.aload_n 0, 1) := dk_42 (by decide +kernel)
theorem dX1_changeTo_34 : decode cX1_changeTo 34 = .ok (.iload_n 2, 1) := dk_28 (by decide +kernel)
theorem dX1_changeTo_35 : decode cX1_changeTo 35 = .ok (.putfield 18, 3) := dk_181 (by decide +kernel)
theorem dX1_changeTo_38 : decode cX1_changeTo 38 = .ok (.iload_n 3, 1) := dk_29 (by decide +kernel)
theorem dX1_changeTo_39 : decode cX1_changeTo 39 = .ok (.ireturn, 1) := dk_172 (by decide +kernel)
theorem dX1_changeTo_40 : decode cX1_changeTo 40 = .ok (.aload_n 0, 1) := dk_42 (by decide +kernel)
theorem dX1_changeTo_41 : decode cX1_changeTo 41 = .ok (.getfield 21, 3) := dk_180 (by decide +kernel)
theorem dX1_changeTo_44 : decode cX1_changeTo 44 = .ok (.istore_n 3, 1) := dk_62 (by decide +kernel)
theorem dX1_changeTo_45 : decode cX1_changeTo 45 = .ok (.aload_n 0, 1) := dk_42 (by decide +kernel)
theorem dX1_changeTo_46 : decode cX1_changeTo 46 = .ok (.iload_n 2, 1) := dk_28 (by decide +kernel)
theorem dX1_changeTo_47 : decode cX1_changeTo 47 = .ok (.putfield 21, 3) := dk_181 (by decide +kernel)
theorem dX1_changeTo_50 : decode cX1_changeTo 50 = .ok (.iload_n 3, 1) := dk_29 (by decide +kernel)
theorem dX1_changeTo_51 : decode cX1_changeTo 51 = .ok (.ireturn, 1) := dk_172 (by decide +kernel)
theorem dX1_changeTo_52 : decode cX1_changeTo 52 = .ok (.aload_n 0, 1) := dk_42 (by decide +kernel)
theorem dX1_changeTo_53 : decode cX1_changeTo 53 = .ok (.getfield 30, 3) := dk_180 (by decide +kernel)
theorem dX1_changeTo_56 : decode cX1_changeTo 56 = .ok (.ifCond .eq 7, 3) := dk_153 (by decide +kernel)
theorem dX1_changeTo_63 : decode cX1_changeTo 63 = .ok (.iconst 0, 1) := dk_3 (by decide +kernel)
theorem dX1_changeTo_64 : decode cX1_changeTo 64 = .ok (.istore_n 3, 1) := dk_62 (by decide +kernel)
theorem dX1_changeTo_65 : decode cX1_changeTo 65 = .ok (.aload_n 0, 1) := dk_42 (by decide +kernel)
theorem dX1_changeTo_66 : decode cX1_changeTo 66 = .ok (.iload_n 2, 1) := dk_28 (by decide +kernel)
theorem dX1_changeTo_67 : decode cX1_changeTo 67 = .ok (.iconst 1, 1) := dk_4 (by decide +kernel)
theorem dX1_changeTo_68 : decode cX1_changeTo 68 = .ok (.if_icmp .ne 7, 3) := dk_160 (by decide +kernel)
theorem dX1_changeTo_75 : decode cX1_changeTo 75 = .ok (.iconst 0, 1) := dk_3 (by decide +kernel)
theorem dX1_changeTo_76 : decode cX1_changeTo 76 = .ok (.putfield 30, 3) := dk_181 (by decide +kernel)
theorem dX1_changeTo_79 : decode cX1_changeTo 79 = .ok (.iload_n 3, 1) := dk_29 (by decide +kernel)
theorem dX1_changeTo_80 : decode cX1_changeTo 80 = .ok (.ireturn, 1) := dk_172 (by decide +kernel)
theorem dX1_changeTo_71 : decode cX1_changeTo 71 = .ok (.iconst 1, 1) := dk_4 (by decide +kernel)
theorem dX1_changeTo_72 : decode cX1_changeTo 72 = .ok (.goto 4, 3) := dk_167 (by decide +kernel)
theorem dX1_changeTo_59 : decode cX1_changeTo 59 = .ok (.iconst 1, 1) := dk_4 (by decide +kernel)
theorem dX1_changeTo_60 : decode cX1_changeTo 60 = .ok (.goto 4, 3) := dk_167 (by decide +kernel)
theorem dX1_changeTo_81 : decode cX1_changeTo 81 = .ok (.aload_n 0, 1) := dk_42 (by decide +kernel)
theorem dX1_changeTo_82 : decode cX1_changeTo 82 = .ok (.getfield 27, 3) := dk_180 (by decide +kernel)
theorem dX1_changeTo_85 : decode cX1_changeTo 85 = .ok (.istore_n 3, 1) := dk_62 (by decide +kernel)
theorem dX1_changeTo_86 : decode cX1_changeTo 86 = .ok (.aload_n 0, 1) := dk_42 (by decide +kernel)
theorem dX1_changeTo_87 : decode cX1_changeTo 87 = .ok (.iload_n 2, 1) := dk_28 (by decide +kernel)
theorem dX1_changeTo_88 : decode cX1_changeTo 88 = .ok (.putfield 27, 3) := dk_181 (by decide +kernel)
theorem dX1_changeTo_91 : decode cX1_changeTo 91 = .ok (.iload_n 3, 1) := dk_29 (by decide +kernel)
theorem dX1_changeTo_92 : decode cX1_changeTo 92 = .ok (.ireturn, 1) := dk_172 (by decide +kernel)
set_option maxRecDepth 100000 in
set_option maxHeartbeats 8000000 in
theorem x_X1_changeTo (l : Launch) (D : va_G) (y : wY) (ad : Nat → Nat) (x0 : Nat) (i1 : Int32) (i2 : Int32) (hx0 : Cl x0 1) (M : Mem) (K : Int32 → Mem → Prop) (h : wp_X1_changeTo x0 i1 i2 M K) : MI l D y ad yX1_changeTo (Cond.code yX1_changeTo cX1_changeTo 4 (some .int)) 0 M [.ref (ad x0), .int i1, .int i2] K := by
  refine MI_of (by decide) (Nat.le_of_ble_eq_true rfl) ?_
  intro p e s m args below meth c X hr hlocks
  delta wp_X1_changeTo at h
  refine j_lv (lv1 := [(0, .ref (ad x0)), (1, .int i1), (2, .int i2)]) [0, 1, 2] rfl ?_
  refine j_iload_n X 1 rfl rfl dX1_changeTo_0 ?_
  by_cases w_1 : i1 = 0
  · replace h := h.1 w_1
    refine j_tsw_in X 28 0 w_1 (by decide) (by decide) (off := 27) rfl (by decide) dX1_changeTo_1 ?_
    refine j_aload_n X 0 rfl rfl dX1_changeTo_28 ?_
    refine j_get X hx0.1 (wE_1 _ hx0.2) rfl awF1 2 (by decide) aw_270 rfl (v := .int (M x0 2)) rfl dX1_changeTo_29 ?_
    refine j_istore_n X [(3, .int (M x0 2)), (0, .ref (ad x0)), (1, .int i1), (2, .int i2)] rfl (by decide) rfl dX1_changeTo_32 ?_
    refine j_aload_n X 1 rfl rfl dX1_changeTo_33 ?_
    refine j_iload_n X 3 rfl rfl dX1_changeTo_34 ?_
    refine j_put X (up M x0 2 i2) up_o hx0.1 (wE_1 _ hx0.2) rfl awF1 2 (by decide) (wP_1_2 _ _ hx0.2) tyX1 tyX1_ok nmX1 rfl (ty := .int) (by decide +kernel) rfl rfl (Nat.le_of_ble_eq_true rfl) aw_270 rfl dX1_changeTo_35 ?_
    refine j_iload_n X 0 rfl rfl dX1_changeTo_38 ?_
    exact j_iret X hr hlocks dX1_changeTo_39 h
  replace h := h.2 w_1
  by_cases w_2 : i1 = 1
  · replace h := h.1 w_2
    refine j_tsw_in X 40 1 w_2 (by decide) (by decide) (off := 39) rfl (by decide) dX1_changeTo_1 ?_
    refine j_aload_n X 0 rfl rfl dX1_changeTo_40 ?_
    refine j_get X hx0.1 (wE_1 _ hx0.2) rfl awF1 3 (by decide) aw_271 rfl (v := .int (M x0 3)) rfl dX1_changeTo_41 ?_
    refine j_istore_n X [(3, .int (M x0 3)), (0, .ref (ad x0)), (1, .int i1), (2, .int i2)] rfl (by decide) rfl dX1_changeTo_44 ?_
    refine j_aload_n X 1 rfl rfl dX1_changeTo_45 ?_
    refine j_iload_n X 3 rfl rfl dX1_changeTo_46 ?_
    refine j_put X (up M x0 3 i2) up_o hx0.1 (wE_1 _ hx0.2) rfl awF1 3 (by decide) (wP_1_3 _ _ hx0.2) tyX1 tyX1_ok nmX1 rfl (ty := .int) (by decide +kernel) rfl rfl (Nat.le_of_ble_eq_true rfl) aw_271 rfl dX1_changeTo_47 ?_
    refine j_iload_n X 0 rfl rfl dX1_changeTo_50 ?_
    exact j_iret X hr hlocks dX1_changeTo_51 h
  replace h := h.2 w_2
  by_cases w_3 : i1 = 2
  · replace h := h.1 w_3
    refine j_tsw_in X 52 2 w_3 (by decide) (by decide) (off := 51) rfl (by decide) dX1_changeTo_1 ?_
    refine j_aload_n X 0 rfl rfl dX1_changeTo_52 ?_
    refine j_get X hx0.1 (wE_1 _ hx0.2) rfl awF1 6 (by decide) aw_272 rfl (v := .int (M x0 6)) rfl dX1_changeTo_53 ?_
    refine j_if_eq X 63 (by decide) dX1_changeTo_56 (fun q_4 => ?_) (fun q_4 => ?_)
    · replace h := h.1 q_4
      refine j_iconst X (v := 0) (by decide) dX1_changeTo_63 ?_
      refine j_istore_n X [(3, .int 0), (0, .ref (ad x0)), (1, .int i1), (2, .int i2)] rfl (by decide) rfl dX1_changeTo_64 ?_
      refine j_aload_n X 1 rfl rfl dX1_changeTo_65 ?_
      refine j_iload_n X 3 rfl rfl dX1_changeTo_66 ?_
      refine j_iconst X (v := 1) (by decide) dX1_changeTo_67 ?_
      refine j_icmp_ne X 75 (by decide) dX1_changeTo_68 (fun q_5 => ?_) (fun q_5 => ?_)
      · replace h := h.1 q_5
        refine j_iconst X (v := 0) (by decide) dX1_changeTo_75 ?_
        refine j_put X (up M x0 6 0) up_o hx0.1 (wE_1 _ hx0.2) rfl awF1 6 (by decide) (wP_1_6 _ _ hx0.2) tyX1 tyX1_ok nmX1 rfl (ty := .boolean) (by decide +kernel) rfl rfl (Nat.le_of_ble_eq_true rfl) aw_272 rfl dX1_changeTo_76 ?_
        refine j_iload_n X 0 rfl rfl dX1_changeTo_79 ?_
        exact j_iret X hr hlocks dX1_changeTo_80 h
      · replace h := h.2 q_5
        refine j_iconst X (v := 1) (by decide) dX1_changeTo_71 ?_
        refine j_goto X 76 (by decide) dX1_changeTo_72 ?_
        refine j_put X (up M x0 6 1) up_o hx0.1 (wE_1 _ hx0.2) rfl awF1 6 (by decide) (wP_1_6 _ _ hx0.2) tyX1 tyX1_ok nmX1 rfl (ty := .boolean) (by decide +kernel) rfl rfl (Nat.le_of_ble_eq_true rfl) aw_272 rfl dX1_changeTo_76 ?_
        refine j_iload_n X 0 rfl rfl dX1_changeTo_79 ?_
        exact j_iret X hr hlocks dX1_changeTo_80 h
    · replace h := h.2 q_4
      refine j_iconst X (v := 1) (by decide) dX1_changeTo_59 ?_
      refine j_goto X 64 (by decide) dX1_changeTo_60 ?_
      refine j_istore_n X [(3, .int 1), (0, .ref (ad x0)), (1, .int i1), (2, .int i2)] rfl (by decide) rfl dX1_changeTo_64 ?_
      refine j_aload_n X 1 rfl rfl dX1_changeTo_65 ?_
      refine j_iload_n X 3 rfl rfl dX1_changeTo_66 ?_
      refine j_iconst X (v := 1) (by decide) dX1_changeTo_67 ?_
      refine j_icmp_ne X 75 (by decide) dX1_changeTo_68 (fun q_6 => ?_) (fun q_6 => ?_)
      · replace h := h.1 q_6
        refine j_iconst X (v := 0) (by decide) dX1_changeTo_75 ?_
        refine j_put X (up M x0 6 0) up_o hx0.1 (wE_1 _ hx0.2) rfl awF1 6 (by decide) (wP_1_6 _ _ hx0.2) tyX1 tyX1_ok nmX1 rfl (ty := .boolean) (by decide +kernel) rfl rfl (Nat.le_of_ble_eq_true rfl) aw_272 rfl dX1_changeTo_76 ?_
        refine j_iload_n X 0 rfl rfl dX1_changeTo_79 ?_
        exact j_iret X hr hlocks dX1_changeTo_80 h
      · replace h := h.2 q_6
        refine j_iconst X (v := 1) (by decide) dX1_changeTo_71 ?_
        refine j_goto X 76 (by decide) dX1_changeTo_72 ?_
        refine j_put X (up M x0 6 1) up_o hx0.1 (wE_1 _ hx0.2) rfl awF1 6 (by decide) (wP_1_6 _ _ hx0.2) tyX1 tyX1_ok nmX1 rfl (ty := .boolean) (by decide +kernel) rfl rfl (Nat.le_of_ble_eq_true rfl) aw_272 rfl dX1_changeTo_76 ?_
        refine j_iload_n X 0 rfl rfl dX1_changeTo_79 ?_
        exact j_iret X hr hlocks dX1_changeTo_80 h
  replace h := h.2 w_3
  have qw_1 := ti_ne (n := 0) (by decide) w_1
  have qw_2 := ti_ne (n := 1) (by decide) w_2
  have qw_3 := ti_ne (n := 2) (by decide) w_3
  refine j_tsw_out X 81 (by omega) (by decide) dX1_changeTo_1 ?_
  refine j_aload_n X 0 rfl rfl dX1_changeTo_81 ?_
  refine j_get X hx0.1 (wE_1 _ hx0.2) rfl awF1 5 (by decide) aw_218 rfl (v := .int (M x0 5)) rfl dX1_changeTo_82 ?_
  refine j_istore_n X [(3, .int (M x0 5)), (0, .ref (ad x0)), (1, .int i1), (2, .int i2)] rfl (by decide) rfl dX1_changeTo_85 ?_
  refine j_aload_n X 1 rfl rfl dX1_changeTo_86 ?_
  refine j_iload_n X 3 rfl rfl dX1_changeTo_87 ?_
  refine j_put X (up M x0 5 i2) up_o hx0.1 (wE_1 _ hx0.2) rfl awF1 5 (by decide) (wP_1_5 _ _ hx0.2) tyX1 tyX1_ok nmX1 rfl (ty := .int) (by decide +kernel) rfl rfl (Nat.le_of_ble_eq_true rfl) aw_218 rfl dX1_changeTo_88 ?_
  refine j_iload_n X 0 rfl rfl dX1_changeTo_91 ?_
  exact j_iret X hr hlocks dX1_changeTo_92 h
theorem dX1_isOfKind_0 : decode cX1_isOfKind 0 = .ok (.iload_n 1, 1) := dk_27 (by decide +kernel)
theorem dX1_isOfKind_1 : decode cX1_isOfKind 1 = .ok (.aload_n 0, 1) := dk_42 (by decide +kernel)
theorem dX1_isOfKind_2 : decode cX1_isOfKind 2 = .ok (.getfield 9, 3) := dk_180 (by decide +kernel)
theorem dX1_isOfKind_5 : decode cX1_isOfKind 5 = .ok (.if_icmp .eq 19, 3) := dk_159 (by decide +kernel)
theorem dX1_isOfKind_24 : decode cX1_isOfKind 24 = .ok (.iconst 1, 1) := dk_4 (by decide +kernel)
theorem dX1_isOfKind_25 : decode cX1_isOfKind 25 = .ok (.goto 4, 3) := dk_167 (by decide +kernel)
theorem dX1_isOfKind_29 : decode cX1_isOfKind 29 = .ok (.ireturn, 1) := dk_172 (by decide +kernel)
theorem dX1_isOfKind_8 : decode cX1_isOfKind 8 = .ok (.iload_n 1, 1) := dk_27 (by decide +kernel)
theorem dX1_isOfKind_9 : decode cX1_isOfKind 9 = .ok (.getstatic 34, 3) := by decide +kernel
theorem dX1_isOfKind_12 : decode cX1_isOfKind 12 = .ok (.aload_n 0, 1) := dk_42 (by decide +kernel)
theorem dX1_isOfKind_13 : decode cX1_isOfKind 13 = .ok (.getfield 9, 3) := dk_180 (by decide +kernel)
theorem dX1_isOfKind_16 : decode cX1_isOfKind 16 = .ok (.iaload, 1) := dk_46 (by decide +kernel)
theorem dX1_isOfKind_17 : decode cX1_isOfKind 17 = .ok (.if_icmp .eq 7, 3) := dk_159 (by decide +kernel)
theorem dX1_isOfKind_20 : decode cX1_isOfKind 20 = .ok (.iload_n 1, 1) := dk_27 (by decide +kernel)
theorem dX1_isOfKind_21 : decode cX1_isOfKind 21 = .ok (.ifCond .ne 7, 3) := dk_154 (by decide +kernel)
theorem dX1_isOfKind_28 : decode cX1_isOfKind 28 = .ok (.iconst 0, 1) := dk_3 (by decide +kernel)
set_option maxRecDepth 100000 in
set_option maxHeartbeats 8000000 in
theorem x_X1_isOfKind (l : Launch) (D : va_G) (y : wY) (ad : Nat → Nat) (x0 : Nat) (i1 : Int32) (hx0 : Cl x0 1) (M : Mem) (K : Int32 → Mem → Prop) (h : wp_X1_isOfKind x0 i1 M K) : MI l D y ad yX1_isOfKind (Cond.code yX1_isOfKind cX1_isOfKind 2 (some .boolean)) 0 M [.ref (ad x0), .int i1] K := by
  refine MI_of (by decide) (Nat.le_of_ble_eq_true rfl) ?_
  intro p e s m args below meth c X hr hlocks
  delta wp_X1_isOfKind at h
  refine j_lv (lv1 := [(0, .ref (ad x0)), (1, .int i1)]) [0, 1] rfl ?_
  refine j_iload_n X 1 rfl rfl dX1_isOfKind_0 ?_
  refine j_aload_n X 0 rfl rfl dX1_isOfKind_1 ?_
  refine j_get X hx0.1 (wE_1 _ hx0.2) rfl awF1 0 (by decide) aw_175 rfl (v := .int (M x0 0)) rfl dX1_isOfKind_2 ?_
  refine j_icmp_eq X 24 (by decide) dX1_isOfKind_5 (fun q_1 => ?_) (fun q_1 => ?_)
  · replace h := h.1 q_1
    refine j_iconst X (v := 1) (by decide) dX1_isOfKind_24 ?_
    refine j_goto X 29 (by decide) dX1_isOfKind_25 ?_
    exact j_zret X hr hlocks (Or.inr rfl) dX1_isOfKind_29 h
  · replace h := h.2 q_1
    refine j_iload_n X 1 rfl rfl dX1_isOfKind_8 ?_
    refine j_getsK X (List.mem_of_getElem? (i := 37) rfl) dX1_isOfKind_9 ?_
    refine j_aload_n X 0 rfl rfl dX1_isOfKind_12 ?_
    refine j_get X hx0.1 (wE_1 _ hx0.2) rfl awF1 0 (by decide) aw_175 rfl (v := .int (M x0 0)) rfl dX1_isOfKind_13 ?_
    obtain ⟨hi_2, h⟩ := h
    refine j_ialdK X hi_2 dX1_isOfKind_16 ?_
    refine j_icmp_eq X 24 (by decide) dX1_isOfKind_17 (fun q_3 => ?_) (fun q_3 => ?_)
    · replace h := h.1 q_3
      refine j_iconst X (v := 1) (by decide) dX1_isOfKind_24 ?_
      refine j_goto X 29 (by decide) dX1_isOfKind_25 ?_
      exact j_zret X hr hlocks (Or.inr rfl) dX1_isOfKind_29 h
    · replace h := h.2 q_3
      refine j_iload_n X 1 rfl rfl dX1_isOfKind_20 ?_
      refine j_if_ne X 28 (by decide) dX1_isOfKind_21 (fun q_4 => ?_) (fun q_4 => ?_)
      · replace h := h.1 q_4
        refine j_iconst X (v := 0) (by decide) dX1_isOfKind_28 ?_
        exact j_zret X hr hlocks (Or.inl rfl) dX1_isOfKind_29 h
      · replace h := h.2 q_4
        refine j_iconst X (v := 1) (by decide) dX1_isOfKind_24 ?_
        refine j_goto X 29 (by decide) dX1_isOfKind_25 ?_
        exact j_zret X hr hlocks (Or.inr rfl) dX1_isOfKind_29 h
theorem dX4_add_0 : decode cX4_add 0 = .ok (.aload_n 0, 1) := dk_42 (by decide +kernel)
theorem dX4_add_1 : decode cX4_add 1 = .ok (.getfield 28, 3) := dk_180 (by decide +kernel)
theorem dX4_add_4 : decode cX4_add 4 = .ok (.bipush 50, 2) := dk_16 (by decide +kernel)
theorem dX4_add_6 : decode cX4_add 6 = .ok (.if_icmp .ge 43, 3) := dk_162 (by decide +kernel)
theorem dX4_add_49 : decode cX4_add 49 = .ok (.aload_n 0, 1) := dk_42 (by decide +kernel)
theorem dX4_add_50 : decode cX4_add 50 = .ok (.getfield 28, 3) := dk_180 (by decide +kernel)
theorem dX4_add_53 : decode cX4_add 53 = .ok (.iconst 1, 1) := dk_4 (by decide +kernel)
theorem dX4_add_54 : decode cX4_add 54 = .ok (.isub, 1) := dk_100 (by decide +kernel)
theorem dX4_add_55 : decode cX4_add 55 = .ok (.ireturn, 1) := dk_172 (by decide +kernel)
theorem dX4_add_9 : decode cX4_add 9 = .ok (.aload_n 0, 1) := dk_42 (by decide +kernel)
theorem dX4_add_10 : decode cX4_add 10 = .ok (.getfield 9, 3) := dk_180 (by decide +kernel)
theorem dX4_add_13 : decode cX4_add 13 = .ok (.aload_n 0, 1) := dk_42 (by decide +kernel)
theorem dX4_add_14 : decode cX4_add 14 = .ok (.getfield 28, 3) := dk_180 (by decide +kernel)
theorem dX4_add_17 : decode cX4_add 17 = .ok (.iload_n 1, 1) := dk_27 (by decide +kernel)
theorem dX4_add_18 : decode cX4_add 18 = .ok (.iastore, 1) := dk_79 (by decide +kernel)
theorem dX4_add_19 : decode cX4_add 19 = .ok (.aload_n 0, 1) := dk_42 (by decide +kernel)
theorem dX4_add_20 : decode cX4_add 20 = .ok (.getfield 15, 3) := dk_180 (by decide +kernel)
theorem dX4_add_23 : decode cX4_add 23 = .ok (.aload_n 0, 1) := dk_42 (by decide +kernel)
theorem dX4_add_24 : decode cX4_add 24 = .ok (.getfield 28, 3) := dk_180 (by decide +kernel)
theorem dX4_add_27 : decode cX4_add 27 = .ok (.iload_n 2, 1) := dk_28 (by decide +kernel)
theorem dX4_add_28 : decode cX4_add 28 = .ok (.iastore, 1) := dk_79 (by decide +kernel)
theorem dX4_add_29 : decode cX4_add 29 = .ok (.aload_n 0, 1) := dk_42 (by decide +kernel)
theorem dX4_add_30 : decode cX4_add 30 = .ok (.getfield 18, 3) := dk_180 (by decide +kernel)
theorem dX4_add_33 : decode cX4_add 33 = .ok (.aload_n 0, 1) := dk_42 (by decide +kernel)
theorem dX4_add_34 : decode cX4_add 34 = .ok (.getfield 28, 3) := dk_180 (by decide +kernel)
theorem dX4_add_37 : decode cX4_add 37 = .ok (.iload_n 3, 1) := dk_29 (by decide +kernel)
theorem dX4_add_38 : decode cX4_add 38 = .ok (.iastore, 1) := dk_79 (by decide +kernel)
theorem dX4_add_39 : decode cX4_add 39 = .ok (.aload_n 0, 1) := dk_42 (by decide +kernel)
theorem dX4_add_40 : decode cX4_add 40 = .ok (.dup, 1) := dk_89 (by decide +kernel)
theorem dX4_add_41 : decode cX4_add 41 = .ok (.getfield 28, 3) := dk_180 (by decide +kernel)
theorem dX4_add_44 : decode cX4_add 44 = .ok (.iconst 1, 1) := dk_4 (by decide +kernel)
theorem dX4_add_45 : decode cX4_add 45 = .ok (.iadd, 1) := dk_96 (by decide +kernel)
theorem dX4_add_46 : decode cX4_add 46 = .ok (.putfield 28, 3) := dk_181 (by decide +kernel)
set_option maxRecDepth 100000 in
set_option maxHeartbeats 8000000 in
theorem x_X4_add (l : Launch) (D : va_G) (y : wY) (ad : Nat → Nat) (x0 : Nat) (i1 : Int32) (i2 : Int32) (i3 : Int32) (hx0 : Cl x0 4) (M : Mem) (K : Int32 → Mem → Prop) (h : wp_X4_add x0 i1 i2 i3 M K) : MI l D y ad yX4_add (Cond.code yX4_add cX4_add 4 (some .int)) 0 M [.ref (ad x0), .int i1, .int i2, .int i3] K := by
  refine MI_of (by decide) (Nat.le_of_ble_eq_true rfl) ?_
  intro p e s m args below meth c X hr hlocks
  delta wp_X4_add at h
  refine j_lv (lv1 := [(0, .ref (ad x0)), (1, .int i1), (2, .int i2), (3, .int i3)]) [0, 1, 2, 3] rfl ?_
  refine j_aload_n X 0 rfl rfl dX4_add_0 ?_
  refine j_get X hx0.1 (wE_4 _ hx0.2) rfl awF4 5 (by decide) aw_73 rfl (v := .int (M x0 5)) rfl dX4_add_1 ?_
  refine j_bipush X (v := 50) (by decide) dX4_add_4 ?_
  refine j_icmp_ge X 49 (by decide) dX4_add_6 (fun q_1 => ?_) (fun q_1 => ?_)
  · replace h := h.1 q_1
    refine j_aload_n X 0 rfl rfl dX4_add_49 ?_
    refine j_get X hx0.1 (wE_4 _ hx0.2) rfl awF4 5 (by decide) aw_73 rfl (v := .int (M x0 5)) rfl dX4_add_50 ?_
    refine j_iconst X (v := 1) (by decide) dX4_add_53 ?_
    refine j_isub X dX4_add_54 ?_
    exact j_iret X hr hlocks dX4_add_55 h
  · replace h := h.2 q_1
    refine j_aload_n X 0 rfl rfl dX4_add_9 ?_
    refine j_get X hx0.1 (wE_4 _ hx0.2) rfl awF4 0 (by decide) aw_52 rfl (v := .ref (ad (rf x0 0))) rfl dX4_add_10 ?_
    have hk_2 := kf_4_0 hx0
    refine j_aload_n X 0 rfl rfl dX4_add_13 ?_
    refine j_get X hx0.1 (wE_4 _ hx0.2) rfl awF4 5 (by decide) aw_73 rfl (v := .int (M x0 5)) rfl dX4_add_14 ?_
    refine j_iload_n X 1 rfl rfl dX4_add_17 ?_
    obtain ⟨hi_3, h⟩ := h
    refine j_iast X hk_2.1 hk_2.2 hi_3 dX4_add_18 ?_
    refine j_aload_n X 0 rfl rfl dX4_add_19 ?_
    refine j_get X hx0.1 (wE_4 _ hx0.2) rfl awF4 1 (by decide) aw_53 rfl (v := .ref (ad (rf x0 1))) rfl dX4_add_20 ?_
    have hk_4 := kf_4_1 hx0
    refine j_aload_n X 0 rfl rfl dX4_add_23 ?_
    refine j_get X hx0.1 (wE_4 _ hx0.2) rfl awF4 5 (by decide) aw_73 rfl (v := .int ((up M (rf x0 0) (M x0 5).toNatClampNeg i1) x0 5)) rfl dX4_add_24 ?_
    refine j_iload_n X 2 rfl rfl dX4_add_27 ?_
    obtain ⟨hi_5, h⟩ := h
    refine j_iast X hk_4.1 hk_4.2 hi_5 dX4_add_28 ?_
    refine j_aload_n X 0 rfl rfl dX4_add_29 ?_
    refine j_get X hx0.1 (wE_4 _ hx0.2) rfl awF4 2 (by decide) aw_54 rfl (v := .ref (ad (rf x0 2))) rfl dX4_add_30 ?_
    have hk_6 := kf_4_2 hx0
    refine j_aload_n X 0 rfl rfl dX4_add_33 ?_
    refine j_get X hx0.1 (wE_4 _ hx0.2) rfl awF4 5 (by decide) aw_73 rfl (v := .int ((up (up M (rf x0 0) (M x0 5).toNatClampNeg i1) (rf x0 1) ((up M (rf x0 0) (M x0 5).toNatClampNeg i1) x0 5).toNatClampNeg i2) x0 5)) rfl dX4_add_34 ?_
    refine j_iload_n X 3 rfl rfl dX4_add_37 ?_
    obtain ⟨hi_7, h⟩ := h
    refine j_iast X hk_6.1 hk_6.2 hi_7 dX4_add_38 ?_
    refine j_topM (fun Mg_8 eMg_8 => ?_)
    replace h := h Mg_8 eMg_8
    refine j_aload_n X 0 rfl rfl dX4_add_39 ?_
    refine j_dup X rfl dX4_add_40 ?_
    refine j_get X hx0.1 (wE_4 _ hx0.2) rfl awF4 5 (by decide) aw_73 rfl (v := .int (Mg_8 x0 5)) rfl dX4_add_41 ?_
    refine j_iconst X (v := 1) (by decide) dX4_add_44 ?_
    refine j_iadd X dX4_add_45 ?_
    refine j_put X (up Mg_8 x0 5 ((Mg_8 x0 5) + 1)) up_o hx0.1 (wE_4 _ hx0.2) rfl awF4 5 (by decide) (wP_4_5 _ _ hx0.2) tyX4 tyX4_ok nmX4 rfl (ty := .int) (by decide +kernel) rfl rfl (Nat.le_of_ble_eq_true rfl) aw_73 rfl dX4_add_46 ?_
    refine j_aload_n X 0 rfl rfl dX4_add_49 ?_
    refine j_get X hx0.1 (wE_4 _ hx0.2) rfl awF4 5 (by decide) aw_73 rfl (v := .int ((up Mg_8 x0 5 ((Mg_8 x0 5) + 1)) x0 5)) rfl dX4_add_50 ?_
    refine j_iconst X (v := 1) (by decide) dX4_add_53 ?_
    refine j_isub X dX4_add_54 ?_
    exact j_iret X hr hlocks dX4_add_55 h
theorem dX2_next_0 : decode cX2_next 0 = .ok (.aload_n 0, 1) := dk_42 (by decide +kernel)
theorem dX2_next_1 : decode cX2_next 1 = .ok (.getfield 38, 3) := dk_180 (by decide +kernel)
theorem dX2_next_4 : decode cX2_next 4 = .ok (.aload_n 0, 1) := dk_42 (by decide +kernel)
theorem dX2_next_5 : decode cX2_next 5 = .ok (.getfield 28, 3) := dk_180 (by decide +kernel)
theorem dX2_next_8 : decode cX2_next 8 = .ok (.if_icmp .ge 15, 3) := dk_162 (by decide +kernel)
theorem dX2_next_23 : decode cX2_next 23 = .ok (.iconst (-1), 1) := dk_2 (by decide +kernel)
theorem dX2_next_24 : decode cX2_next 24 = .ok (.ireturn, 1) := dk_172 (by decide +kernel)
theorem dX2_next_11 : decode cX2_next 11 = .ok (.aload_n 0, 1) := dk_42 (by decide +kernel)
theorem dX2_next_12 : decode cX2_next 12 = .ok (.getfield 18, 3) := dk_180 (by decide +kernel)
theorem dX2_next_15 : decode cX2_next 15 = .ok (.aload_n 0, 1) := dk_42 (by decide +kernel)
theorem dX2_next_16 : decode cX2_next 16 = .ok (.getfield 38, 3) := dk_180 (by decide +kernel)
theorem dX2_next_19 : decode cX2_next 19 = .ok (.iaload, 1) := dk_46 (by decide +kernel)
theorem dX2_next_20 : decode cX2_next 20 = .ok (.goto 4, 3) := dk_167 (by decide +kernel)
set_option maxRecDepth 100000 in
set_option maxHeartbeats 8000000 in
theorem x_X2_next (l : Launch) (D : va_G) (y : wY) (ad : Nat → Nat) (M : Mem) (K : Int32 → Mem → Prop) (h : wp_X2_next M K) : MI l D y ad yX2_next (Cond.code yX2_next cX2_next 1 (some .int)) 0 M [.ref (ad 60)] K := by
  refine MI_of (by decide) (Nat.le_of_ble_eq_true rfl) ?_
  intro p e s m args below meth c X hr hlocks
  delta wp_X2_next at h
  refine j_lv (lv1 := [(0, .ref (ad 60))]) [0] rfl ?_
  refine j_aload_n X 0 rfl rfl dX2_next_0 ?_
  refine j_get X cl_60.1 (wE_2 _ cl_60.2) rfl awF2 3 (by decide) aw_323 rfl (v := .int (M 60 3)) rfl dX2_next_1 ?_
  refine j_aload_n X 0 rfl rfl dX2_next_4 ?_
  refine j_get X cl_60.1 (wE_2 _ cl_60.2) rfl awF2 2 (by decide) aw_318 rfl (v := .int (M 60 2)) rfl dX2_next_5 ?_
  refine j_icmp_ge X 23 (by decide) dX2_next_8 (fun q_1 => ?_) (fun q_1 => ?_)
  · replace h := h.1 q_1
    refine j_iconst X (v := (-1)) (by decide) dX2_next_23 ?_
    exact j_iret X hr hlocks dX2_next_24 h
  · replace h := h.2 q_1
    refine j_aload_n X 0 rfl rfl dX2_next_11 ?_
    refine j_get X cl_60.1 (wE_2 _ cl_60.2) rfl awF2 1 (by decide) aw_79 rfl (v := .ref (ad 66)) rfl dX2_next_12 ?_
    refine j_aload_n X 0 rfl rfl dX2_next_15 ?_
    refine j_get X cl_60.1 (wE_2 _ cl_60.2) rfl awF2 3 (by decide) aw_323 rfl (v := .int (M 60 3)) rfl dX2_next_16 ?_
    obtain ⟨hi_2, h⟩ := h
    refine j_iald X cl_66.1 cl_66.2 hi_2 dX2_next_19 ?_
    refine j_goto X 24 (by decide) dX2_next_20 ?_
    exact j_iret X hr hlocks dX2_next_24 h
theorem dX2_levelOf_0 : decode cX2_levelOf 0 = .ok (.iload_n 0, 1) := dk_26 (by decide +kernel)
theorem dX2_levelOf_1 : decode cX2_levelOf 1 = .ok (.lookupswitch 101 #[(37, 99), (38, 93), (42, 99), (43, 97), (45, 97), (47, 99), (60, 95), (61, 95), (62, 95), (124, 91)], 91) := by decide +kernel
theorem dX2_levelOf_100 : decode cX2_levelOf 100 = .ok (.iconst 4, 1) := dk_7 (by decide +kernel)
theorem dX2_levelOf_101 : decode cX2_levelOf 101 = .ok (.ireturn, 1) := dk_172 (by decide +kernel)
theorem dX2_levelOf_94 : decode cX2_levelOf 94 = .ok (.iconst 1, 1) := dk_4 (by decide +kernel)
theorem dX2_levelOf_95 : decode cX2_levelOf 95 = .ok (.ireturn, 1) := dk_172 (by decide +kernel)
theorem dX2_levelOf_98 : decode cX2_levelOf 98 = .ok (.iconst 3, 1) := dk_6 (by decide +kernel)
theorem dX2_levelOf_99 : decode cX2_levelOf 99 = .ok (.ireturn, 1) := dk_172 (by decide +kernel)
theorem dX2_levelOf_96 : decode cX2_levelOf 96 = .ok (.iconst 2, 1) := dk_5 (by decide +kernel)
theorem dX2_levelOf_97 : decode cX2_levelOf 97 = .ok (.ireturn, 1) := dk_172 (by decide +kernel)
theorem dX2_levelOf_92 : decode cX2_levelOf 92 = .ok (.iconst 0, 1) := dk_3 (by decide +kernel)
theorem dX2_levelOf_93 : decode cX2_levelOf 93 = .ok (.ireturn, 1) := dk_172 (by decide +kernel)
theorem dX2_levelOf_102 : decode cX2_levelOf 102 = .ok (.iconst (-1), 1) := dk_2 (by decide +kernel)
theorem dX2_levelOf_103 : decode cX2_levelOf 103 = .ok (.ireturn, 1) := dk_172 (by decide +kernel)
set_option maxRecDepth 100000 in
set_option maxHeartbeats 8000000 in
theorem x_X2_levelOf (l : Launch) (D : va_G) (y : wY) (ad : Nat → Nat) (i0 : Int32) (M : Mem) (K : Int32 → Mem → Prop) (h : wp_X2_levelOf i0 M K) : MI l D y ad yX2_levelOf (Cond.code yX2_levelOf cX2_levelOf 1 (some .int)) 0 M [.int i0] K := by
  refine MI_of (by decide) (Nat.le_of_ble_eq_true rfl) ?_
  intro p e s m args below meth c X hr hlocks
  delta wp_X2_levelOf at h
  refine j_lv (lv1 := [(0, .int i0)]) [0] rfl ?_
  refine j_iload_n X 0 rfl rfl dX2_levelOf_0 ?_
  by_cases w_1 : i0 = 37
  · replace h := h.1 w_1
    refine j_lsw X 100 (by decide) (off := 99) (by rw [w_1]; decide) (by decide) dX2_levelOf_1 ?_
    refine j_iconst X (v := 4) (by decide) dX2_levelOf_100 ?_
    exact j_iret X hr hlocks dX2_levelOf_101 h
  replace h := h.2 w_1
  by_cases w_2 : i0 = 38
  · replace h := h.1 w_2
    refine j_lsw X 94 (by decide) (off := 93) (by rw [w_2]; decide) (by decide) dX2_levelOf_1 ?_
    refine j_iconst X (v := 1) (by decide) dX2_levelOf_94 ?_
    exact j_iret X hr hlocks dX2_levelOf_95 h
  replace h := h.2 w_2
  by_cases w_3 : i0 = 42
  · replace h := h.1 w_3
    refine j_lsw X 100 (by decide) (off := 99) (by rw [w_3]; decide) (by decide) dX2_levelOf_1 ?_
    refine j_iconst X (v := 4) (by decide) dX2_levelOf_100 ?_
    exact j_iret X hr hlocks dX2_levelOf_101 h
  replace h := h.2 w_3
  by_cases w_4 : i0 = 43
  · replace h := h.1 w_4
    refine j_lsw X 98 (by decide) (off := 97) (by rw [w_4]; decide) (by decide) dX2_levelOf_1 ?_
    refine j_iconst X (v := 3) (by decide) dX2_levelOf_98 ?_
    exact j_iret X hr hlocks dX2_levelOf_99 h
  replace h := h.2 w_4
  by_cases w_5 : i0 = 45
  · replace h := h.1 w_5
    refine j_lsw X 98 (by decide) (off := 97) (by rw [w_5]; decide) (by decide) dX2_levelOf_1 ?_
    refine j_iconst X (v := 3) (by decide) dX2_levelOf_98 ?_
    exact j_iret X hr hlocks dX2_levelOf_99 h
  replace h := h.2 w_5
  by_cases w_6 : i0 = 47
  · replace h := h.1 w_6
    refine j_lsw X 100 (by decide) (off := 99) (by rw [w_6]; decide) (by decide) dX2_levelOf_1 ?_
    refine j_iconst X (v := 4) (by decide) dX2_levelOf_100 ?_
    exact j_iret X hr hlocks dX2_levelOf_101 h
  replace h := h.2 w_6
  by_cases w_7 : i0 = 60
  · replace h := h.1 w_7
    refine j_lsw X 96 (by decide) (off := 95) (by rw [w_7]; decide) (by decide) dX2_levelOf_1 ?_
    refine j_iconst X (v := 2) (by decide) dX2_levelOf_96 ?_
    exact j_iret X hr hlocks dX2_levelOf_97 h
  replace h := h.2 w_7
  by_cases w_8 : i0 = 61
  · replace h := h.1 w_8
    refine j_lsw X 96 (by decide) (off := 95) (by rw [w_8]; decide) (by decide) dX2_levelOf_1 ?_
    refine j_iconst X (v := 2) (by decide) dX2_levelOf_96 ?_
    exact j_iret X hr hlocks dX2_levelOf_97 h
  replace h := h.2 w_8
  by_cases w_9 : i0 = 62
  · replace h := h.1 w_9
    refine j_lsw X 96 (by decide) (off := 95) (by rw [w_9]; decide) (by decide) dX2_levelOf_1 ?_
    refine j_iconst X (v := 2) (by decide) dX2_levelOf_96 ?_
    exact j_iret X hr hlocks dX2_levelOf_97 h
  replace h := h.2 w_9
  by_cases w_10 : i0 = 124
  · replace h := h.1 w_10
    refine j_lsw X 92 (by decide) (off := 91) (by rw [w_10]; decide) (by decide) dX2_levelOf_1 ?_
    refine j_iconst X (v := 0) (by decide) dX2_levelOf_92 ?_
    exact j_iret X hr hlocks dX2_levelOf_93 h
  replace h := h.2 w_10
  have qw_1 := ti_ne (n := 37) (by decide) w_1
  have qw_2 := ti_ne (n := 38) (by decide) w_2
  have qw_3 := ti_ne (n := 42) (by decide) w_3
  have qw_4 := ti_ne (n := 43) (by decide) w_4
  have qw_5 := ti_ne (n := 45) (by decide) w_5
  have qw_6 := ti_ne (n := 47) (by decide) w_6
  have qw_7 := ti_ne (n := 60) (by decide) w_7
  have qw_8 := ti_ne (n := 61) (by decide) w_8
  have qw_9 := ti_ne (n := 62) (by decide) w_9
  have qw_10 := ti_ne (n := 124) (by decide) w_10
  refine j_lsw X 102 (by decide) (off := 101) (by simp [Op.lookupswitch.offset, qw_1, Ne.symm qw_1, qw_2, Ne.symm qw_2, qw_3, Ne.symm qw_3, qw_4, Ne.symm qw_4, qw_5, Ne.symm qw_5, qw_6, Ne.symm qw_6, qw_7, Ne.symm qw_7, qw_8, Ne.symm qw_8, qw_9, Ne.symm qw_9, qw_10, Ne.symm qw_10]) (by decide) dX2_levelOf_1 ?_
  refine j_iconst X (v := (-1)) (by decide) dX2_levelOf_102 ?_
  exact j_iret X hr hlocks dX2_levelOf_103 h
theorem dX2_stop_0 : decode cX2_stop 0 = .ok (.aload_n 0, 1) := dk_42 (by decide +kernel)
theorem dX2_stop_1 : decode cX2_stop 1 = .ok (.getfield 41, 3) := dk_180 (by decide +kernel)
theorem dX2_stop_4 : decode cX2_stop 4 = .ok (.ifCond .ge 11, 3) := dk_156 (by decide +kernel)
theorem dX2_stop_15 : decode cX2_stop 15 = .ok (.iconst 0, 1) := dk_3 (by decide +kernel)
theorem dX2_stop_16 : decode cX2_stop 16 = .ok (.ireturn, 1) := dk_172 (by decide +kernel)
theorem dX2_stop_7 : decode cX2_stop 7 = .ok (.aload_n 0, 1) := dk_42 (by decide +kernel)
theorem dX2_stop_8 : decode cX2_stop 8 = .ok (.aload_n 0, 1) := dk_42 (by decide +kernel)
theorem dX2_stop_9 : decode cX2_stop 9 = .ok (.getfield 38, 3) := dk_180 (by decide +kernel)
theorem dX2_stop_12 : decode cX2_stop 12 = .ok (.putfield 41, 3) := dk_181 (by decide +kernel)
set_option maxRecDepth 100000 in
set_option maxHeartbeats 8000000 in
theorem x_X2_stop (l : Launch) (D : va_G) (y : wY) (ad : Nat → Nat) (M : Mem) (K : Int32 → Mem → Prop) (h : wp_X2_stop M K) : MI l D y ad yX2_stop (Cond.code yX2_stop cX2_stop 1 (some .int)) 0 M [.ref (ad 60)] K := by
  refine MI_of (by decide) (Nat.le_of_ble_eq_true rfl) ?_
  intro p e s m args below meth c X hr hlocks
  delta wp_X2_stop at h
  refine j_lv (lv1 := [(0, .ref (ad 60))]) [0] rfl ?_
  refine j_aload_n X 0 rfl rfl dX2_stop_0 ?_
  refine j_get X cl_60.1 (wE_2 _ cl_60.2) rfl awF2 4 (by decide) aw_324 rfl (v := .int (M 60 4)) rfl dX2_stop_1 ?_
  refine j_if_ge X 15 (by decide) dX2_stop_4 (fun q_1 => ?_) (fun q_1 => ?_)
  · replace h := h.1 q_1
    refine j_iconst X (v := 0) (by decide) dX2_stop_15 ?_
    exact j_iret X hr hlocks dX2_stop_16 h
  · replace h := h.2 q_1
    refine j_aload_n X 0 rfl rfl dX2_stop_7 ?_
    refine j_aload_n X 0 rfl rfl dX2_stop_8 ?_
    refine j_get X cl_60.1 (wE_2 _ cl_60.2) rfl awF2 3 (by decide) aw_323 rfl (v := .int (M 60 3)) rfl dX2_stop_9 ?_
    refine j_put X (up M 60 4 (M 60 3)) up_o cl_60.1 (wE_2 _ cl_60.2) rfl awF2 4 (by decide) (wP_2_4 _ _ cl_60.2) tyX2 tyX2_ok nmX2 rfl (ty := .int) (by decide +kernel) rfl rfl (Nat.le_of_ble_eq_true rfl) aw_324 rfl dX2_stop_12 ?_
    refine j_iconst X (v := 0) (by decide) dX2_stop_15 ?_
    exact j_iret X hr hlocks dX2_stop_16 h
theorem dX2_nameOf_0 : decode cX2_nameOf 0 = .ok (.iload_n 1, 1) := dk_27 (by decide +kernel)
theorem dX2_nameOf_1 : decode cX2_nameOf 1 = .ok (.bipush 101, 2) := dk_16 (by decide +kernel)
theorem dX2_nameOf_3 : decode cX2_nameOf 3 = .ok (.if_icmp .ne 5, 3) := dk_160 (by decide +kernel)
theorem dX2_nameOf_8 : decode cX2_nameOf 8 = .ok (.iload_n 1, 1) := dk_27 (by decide +kernel)
theorem dX2_nameOf_9 : decode cX2_nameOf 9 = .ok (.bipush 97, 2) := dk_16 (by decide +kernel)
theorem dX2_nameOf_11 : decode cX2_nameOf 11 = .ok (.if_icmp .ne 5, 3) := dk_160 (by decide +kernel)
theorem dX2_nameOf_16 : decode cX2_nameOf 16 = .ok (.iload_n 1, 1) := dk_27 (by decide +kernel)
theorem dX2_nameOf_17 : decode cX2_nameOf 17 = .ok (.aload_n 0, 1) := dk_42 (by decide +kernel)
theorem dX2_nameOf_18 : decode cX2_nameOf 18 = .ok (.getfield 12, 3) := dk_180 (by decide +kernel)
theorem dX2_nameOf_21 : decode cX2_nameOf 21 = .ok (.getfield 85, 3) := dk_180 (by decide +kernel)
theorem dX2_nameOf_24 : decode cX2_nameOf 24 = .ok (.ifCond .ne 8, 3) := dk_154 (by decide +kernel)
theorem dX2_nameOf_32 : decode cX2_nameOf 32 = .ok (.bipush 109, 2) := dk_16 (by decide +kernel)
theorem dX2_nameOf_34 : decode cX2_nameOf 34 = .ok (.if_icmp .ne 7, 3) := dk_160 (by decide +kernel)
theorem dX2_nameOf_41 : decode cX2_nameOf 41 = .ok (.iconst (-1), 1) := dk_2 (by decide +kernel)
theorem dX2_nameOf_42 : decode cX2_nameOf 42 = .ok (.ireturn, 1) := dk_172 (by decide +kernel)
theorem dX2_nameOf_37 : decode cX2_nameOf 37 = .ok (.iconst 2, 1) := dk_5 (by decide +kernel)
theorem dX2_nameOf_38 : decode cX2_nameOf 38 = .ok (.goto 4, 3) := dk_167 (by decide +kernel)
theorem dX2_nameOf_27 : decode cX2_nameOf 27 = .ok (.bipush 100, 2) := dk_16 (by decide +kernel)
theorem dX2_nameOf_29 : decode cX2_nameOf 29 = .ok (.goto 5, 3) := dk_167 (by decide +kernel)
theorem dX2_nameOf_14 : decode cX2_nameOf 14 = .ok (.iconst 1, 1) := dk_4 (by decide +kernel)
theorem dX2_nameOf_15 : decode cX2_nameOf 15 = .ok (.ireturn, 1) := dk_172 (by decide +kernel)
theorem dX2_nameOf_6 : decode cX2_nameOf 6 = .ok (.iconst 0, 1) := dk_3 (by decide +kernel)
theorem dX2_nameOf_7 : decode cX2_nameOf 7 = .ok (.ireturn, 1) := dk_172 (by decide +kernel)
set_option maxRecDepth 100000 in
set_option maxHeartbeats 8000000 in
theorem x_X2_nameOf (l : Launch) (D : va_G) (y : wY) (ad : Nat → Nat) (i1 : Int32) (M : Mem) (K : Int32 → Mem → Prop) (h : wp_X2_nameOf i1 M K) : MI l D y ad yX2_nameOf (Cond.code yX2_nameOf cX2_nameOf 2 (some .int)) 0 M [.ref (ad 60), .int i1] K := by
  refine MI_of (by decide) (Nat.le_of_ble_eq_true rfl) ?_
  intro p e s m args below meth c X hr hlocks
  delta wp_X2_nameOf at h
  refine j_lv (lv1 := [(0, .ref (ad 60)), (1, .int i1)]) [0, 1] rfl ?_
  refine j_iload_n X 1 rfl rfl dX2_nameOf_0 ?_
  refine j_bipush X (v := 101) (by decide) dX2_nameOf_1 ?_
  refine j_icmp_ne X 8 (by decide) dX2_nameOf_3 (fun q_1 => ?_) (fun q_1 => ?_)
  · replace h := h.1 q_1
    refine j_iload_n X 1 rfl rfl dX2_nameOf_8 ?_
    refine j_bipush X (v := 97) (by decide) dX2_nameOf_9 ?_
    refine j_icmp_ne X 16 (by decide) dX2_nameOf_11 (fun q_2 => ?_) (fun q_2 => ?_)
    · replace h := h.1 q_2
      refine j_iload_n X 1 rfl rfl dX2_nameOf_16 ?_
      refine j_aload_n X 0 rfl rfl dX2_nameOf_17 ?_
      refine j_get X cl_60.1 (wE_2 _ cl_60.2) rfl awF2 0 (by decide) aw_78 rfl (v := .ref (ad 61)) rfl dX2_nameOf_18 ?_
      refine j_getN X cl_61.1 (wE_4 _ cl_61.2) rfl awF4 4 (by decide) (List.mem_of_getElem? (i := 0) rfl) rfl (v := .int (M 61 4)) rfl dX2_nameOf_21 ?_
      refine j_if_ne X 32 (by decide) dX2_nameOf_24 (fun q_3 => ?_) (fun q_3 => ?_)
      · replace h := h.1 q_3
        refine j_bipush X (v := 109) (by decide) dX2_nameOf_32 ?_
        refine j_icmp_ne X 41 (by decide) dX2_nameOf_34 (fun q_4 => ?_) (fun q_4 => ?_)
        · replace h := h.1 q_4
          refine j_iconst X (v := (-1)) (by decide) dX2_nameOf_41 ?_
          exact j_iret X hr hlocks dX2_nameOf_42 h
        · replace h := h.2 q_4
          refine j_iconst X (v := 2) (by decide) dX2_nameOf_37 ?_
          refine j_goto X 42 (by decide) dX2_nameOf_38 ?_
          exact j_iret X hr hlocks dX2_nameOf_42 h
      · replace h := h.2 q_3
        refine j_bipush X (v := 100) (by decide) dX2_nameOf_27 ?_
        refine j_goto X 34 (by decide) dX2_nameOf_29 ?_
        refine j_icmp_ne X 41 (by decide) dX2_nameOf_34 (fun q_5 => ?_) (fun q_5 => ?_)
        · replace h := h.1 q_5
          refine j_iconst X (v := (-1)) (by decide) dX2_nameOf_41 ?_
          exact j_iret X hr hlocks dX2_nameOf_42 h
        · replace h := h.2 q_5
          refine j_iconst X (v := 2) (by decide) dX2_nameOf_37 ?_
          refine j_goto X 42 (by decide) dX2_nameOf_38 ?_
          exact j_iret X hr hlocks dX2_nameOf_42 h
    · replace h := h.2 q_2
      refine j_iconst X (v := 1) (by decide) dX2_nameOf_14 ?_
      exact j_iret X hr hlocks dX2_nameOf_15 h
  · replace h := h.2 q_1
    refine j_iconst X (v := 0) (by decide) dX2_nameOf_6 ?_
    exact j_iret X hr hlocks dX2_nameOf_7 h
theorem dX2_isDigit_0 : decode cX2_isDigit 0 = .ok (.iload_n 0, 1) := dk_26 (by decide +kernel)
theorem dX2_isDigit_1 : decode cX2_isDigit 1 = .ok (.bipush 48, 2) := dk_16 (by decide +kernel)
theorem dX2_isDigit_3 : decode cX2_isDigit 3 = .ok (.bipush 57, 2) := dk_16 (by decide +kernel)
theorem dX2_isDigit_5 : decode cX2_isDigit 5 = .ok (.invokestatic 88, 3) := dk_184 (by decide +kernel)
theorem dX2_isDigit_8 : decode cX2_isDigit 8 = .ok (.ireturn, 1) := dk_172 (by decide +kernel)
set_option maxRecDepth 100000 in
set_option maxHeartbeats 8000000 in
theorem x_X2_isDigit (l : Launch) (D : va_G) (y : wY) (ad : Nat → Nat) (i0 : Int32) (M : Mem) (K : Int32 → Mem → Prop) (h : wp_X2_isDigit i0 M K) : MI l D y ad yX2_isDigit (Cond.code yX2_isDigit cX2_isDigit 1 (some .boolean)) 1 M [.int i0] K := by
  refine MI_of (by decide) (Nat.le_of_ble_eq_true rfl) ?_
  intro p e s m args below meth c X hr hlocks
  delta wp_X2_isDigit at h
  refine j_lv (lv1 := [(0, .int i0)]) [0] rfl ?_
  refine j_iload_n X 0 rfl rfl dX2_isDigit_0 ?_
  refine j_bipush X (v := 48) (by decide) dX2_isDigit_1 ?_
  refine j_bipush X (v := 57) (by decide) dX2_isDigit_3 ?_
  refine j_callSNI X (nn := 3) (As := [.int i0, .int 48, .int 57]) (st := []) aw_110 (x_X7_isWithin l D y ad i0 48 57 _ _ h) (List.mem_of_getElem? (i := 22) rfl) aw_111 aw_2 (by decide +kernel) ⟨Nat.le_of_ble_eq_true rfl, Nat.le_of_ble_eq_true rfl⟩ rfl (Nat.le_of_ble_eq_true rfl) ⟨Nat.le_of_ble_eq_true rfl, Nat.le_of_ble_eq_true rfl⟩ dX2_isDigit_5 ?_
  intro r1 M1 h
  obtain ⟨hb_2, h⟩ := h
  exact j_zret X hr hlocks hb_2 dX2_isDigit_8 h
theorem dX2_readNumber_4 : decode cX2_readNumber 4 = .ok (.iload_n 2, 1) := dk_28 (by decide +kernel)
theorem dX2_readNumber_5 : decode cX2_readNumber 5 = .ok (.iconst 4, 1) := dk_7 (by decide +kernel)
theorem dX2_readNumber_6 : decode cX2_readNumber 6 = .ok (.if_icmp .ge 42, 3) := dk_162 (by decide +kernel)
theorem dX2_readNumber_48 : decode cX2_readNumber 48 = .ok (.aload_n 0, 1) := dk_42 (by decide +kernel)
theorem dX2_readNumber_49 : decode cX2_readNumber 49 = .ok (.getfield 12, 3) := dk_180 (by decide +kernel)
theorem dX2_readNumber_52 : decode cX2_readNumber 52 = .ok (.bipush 48, 2) := dk_16 (by decide +kernel)
theorem dX2_readNumber_54 : decode cX2_readNumber 54 = .ok (.iload_n 1, 1) := dk_27 (by decide +kernel)
theorem dX2_readNumber_55 : decode cX2_readNumber 55 = .ok (.iconst 0, 1) := dk_3 (by decide +kernel)
theorem dX2_readNumber_56 : decode cX2_readNumber 56 = .ok (.invokevirtual 62, 3) := dk_182 (by decide +kernel)
theorem dX2_readNumber_59 : decode cX2_readNumber 59 = .ok (.ireturn, 1) := dk_172 (by decide +kernel)
theorem dX2_readNumber_9 : decode cX2_readNumber 9 = .ok (.aload_n 0, 1) := dk_42 (by decide +kernel)
theorem dX2_readNumber_10 : decode cX2_readNumber 10 = .ok (.invokevirtual 55, 3) := dk_182 (by decide +kernel)
theorem dX2_readNumber_13 : decode cX2_readNumber 13 = .ok (.invokestatic 66, 3) := dk_184 (by decide +kernel)
theorem dX2_readNumber_16 : decode cX2_readNumber 16 = .ok (.ifCond .eq 32, 3) := dk_153 (by decide +kernel)
theorem dX2_readNumber_19 : decode cX2_readNumber 19 = .ok (.bipush 10, 2) := dk_16 (by decide +kernel)
theorem dX2_readNumber_21 : decode cX2_readNumber 21 = .ok (.iload_n 1, 1) := dk_27 (by decide +kernel)
theorem dX2_readNumber_22 : decode cX2_readNumber 22 = .ok (.imul, 1) := dk_104 (by decide +kernel)
theorem dX2_readNumber_23 : decode cX2_readNumber 23 = .ok (.aload_n 0, 1) := dk_42 (by decide +kernel)
theorem dX2_readNumber_24 : decode cX2_readNumber 24 = .ok (.invokevirtual 55, 3) := dk_182 (by decide +kernel)
theorem dX2_readNumber_27 : decode cX2_readNumber 27 = .ok (.iadd, 1) := dk_96 (by decide +kernel)
theorem dX2_readNumber_28 : decode cX2_readNumber 28 = .ok (.bipush 48, 2) := dk_16 (by decide +kernel)
theorem dX2_readNumber_30 : decode cX2_readNumber 30 = .ok (.isub, 1) := dk_100 (by decide +kernel)
theorem dX2_readNumber_31 : decode cX2_readNumber 31 = .ok (.istore_n 1, 1) := dk_60 (by decide +kernel)
theorem dX2_readNumber_32 : decode cX2_readNumber 32 = .ok (.aload_n 0, 1) := dk_42 (by decide +kernel)
theorem dX2_readNumber_33 : decode cX2_readNumber 33 = .ok (.dup, 1) := dk_89 (by decide +kernel)
theorem dX2_readNumber_34 : decode cX2_readNumber 34 = .ok (.getfield 38, 3) := dk_180 (by decide +kernel)
theorem dX2_readNumber_37 : decode cX2_readNumber 37 = .ok (.iconst 1, 1) := dk_4 (by decide +kernel)
theorem dX2_readNumber_38 : decode cX2_readNumber 38 = .ok (.iadd, 1) := dk_96 (by decide +kernel)
theorem dX2_readNumber_39 : decode cX2_readNumber 39 = .ok (.putfield 38, 3) := dk_181 (by decide +kernel)
theorem dX2_readNumber_42 : decode cX2_readNumber 42 = .ok (.iinc 2 1, 3) := dk_132 (by decide +kernel)
theorem dX2_readNumber_45 : decode cX2_readNumber 45 = .ok (.goto (-41), 3) := dk_167 (by decide +kernel)
theorem dX2_readNumber_0 : decode cX2_readNumber 0 = .ok (.iconst 0, 1) := dk_3 (by decide +kernel)
theorem dX2_readNumber_1 : decode cX2_readNumber 1 = .ok (.istore_n 1, 1) := dk_60 (by decide +kernel)
theorem dX2_readNumber_2 : decode cX2_readNumber 2 = .ok (.iconst 0, 1) := dk_3 (by decide +kernel)
theorem dX2_readNumber_3 : decode cX2_readNumber 3 = .ok (.istore_n 2, 1) := dk_61 (by decide +kernel)
set_option maxRecDepth 100000 in
set_option maxHeartbeats 8000000 in
theorem x_X2_readNumber (l : Launch) (D : va_G) (y : wY) (ad : Nat → Nat) (M : Mem) (K : Int32 → Mem → Prop) (h : wp_X2_readNumber M K) : MI l D y ad yX2_readNumber (Cond.code yX2_readNumber cX2_readNumber 3 (some .int)) 2 M [.ref (ad 60)] K := by
  refine MI_of (by decide) (Nat.le_of_ble_eq_true rfl) ?_
  intro p e s m args below meth c X hr hlocks
  have hL4 : ∀ (n : Nat) (i1 : Int32) (i2 : Int32) (Mb : Mem), wp_X2_readNumber_L4 K n i1 i2 Mb → J p l e (rmN 2) s m args below meth c 0 0 (QI K D y ad M s args below) D y ad (va_A (PL y ad M) s.heap.size) 3 Mb 4 [(0, .ref (ad 60)), (1, .int i1), (2, .int i2)] [] := by
    intro n
    induction n with
    | zero => intro i1 i2 Mb h; exact False.elim h
    | succ n hB4 =>
      intro i1 i2 Mb h
      replace h : wp_X2_readNumber_l4 K (wp_X2_readNumber_L4 K n) i1 i2 Mb := h
      delta wp_X2_readNumber_l4 at h
      refine j_iload_n X 2 rfl rfl dX2_readNumber_4 ?_
      refine j_iconst X (v := 4) (by decide) dX2_readNumber_5 ?_
      refine j_icmp_ge X 48 (by decide) dX2_readNumber_6 (fun q_401 => ?_) (fun q_401 => ?_)
      · replace h := h.1 q_401
        refine j_aload_n X 0 rfl rfl dX2_readNumber_48 ?_
        refine j_get X cl_60.1 (wE_2 _ cl_60.2) rfl awF2 0 (by decide) aw_78 rfl (v := .ref (ad 61)) rfl dX2_readNumber_49 ?_
        refine j_bipush X (v := 48) (by decide) dX2_readNumber_52 ?_
        refine j_iload_n X 1 rfl rfl dX2_readNumber_54 ?_
        refine j_iconst X (v := 0) (by decide) dX2_readNumber_55 ?_
        refine j_callVNI X (nn := 3) (As := [.int 48, .int i1, .int 0]) (st := []) (ci := 4) cl_61.1 (wE_4 _ cl_61.2) rfl aw_339 aw_340 (x_X4_add l D y ad 61 48 i1 0 cl_61 _ _ h) (List.mem_of_getElem? (i := 23) rfl) aw_341 aw_41 (by decide +kernel) ⟨Nat.le_of_ble_eq_true rfl, Nat.le_of_ble_eq_true rfl⟩ rfl (Nat.le_of_ble_eq_true rfl) ⟨Nat.le_of_ble_eq_true rfl, Nat.le_of_ble_eq_true rfl⟩ dX2_readNumber_56 ?_
        intro r402 M402 h
        exact j_iret X hr hlocks dX2_readNumber_59 h
      · replace h := h.2 q_401
        refine j_aload_n X 0 rfl rfl dX2_readNumber_9 ?_
        refine j_callVI X (nn := 0) (As := []) (st := []) (ci := 2) cl_60.1 (wE_2 _ cl_60.2) rfl aw_333 aw_334 (x_X2_next l D y ad  _ _ h) aw_332 aw_335 aw_24 (by decide +kernel) ⟨Nat.le_of_ble_eq_true rfl, Nat.le_of_ble_eq_true rfl⟩ rfl (Nat.le_of_ble_eq_true rfl) ⟨Nat.le_of_ble_eq_true rfl, Nat.le_of_ble_eq_true rfl⟩ dX2_readNumber_10 ?_
        intro r403 M403 h
        refine j_callSI X (nn := 1) (As := [.int r403]) (st := []) aw_349 (x_X2_isDigit l D y ad r403 _ _ h) aw_348 aw_350 aw_24 (by decide +kernel) ⟨Nat.le_of_ble_eq_true rfl, Nat.le_of_ble_eq_true rfl⟩ rfl (Nat.le_of_ble_eq_true rfl) ⟨Nat.le_of_ble_eq_true rfl, Nat.le_of_ble_eq_true rfl⟩ dX2_readNumber_13 ?_
        intro r404 M404 h
        refine j_if_eq X 48 (by decide) dX2_readNumber_16 (fun q_405 => ?_) (fun q_405 => ?_)
        · replace h := h.1 q_405
          refine j_aload_n X 0 rfl rfl dX2_readNumber_48 ?_
          refine j_get X cl_60.1 (wE_2 _ cl_60.2) rfl awF2 0 (by decide) aw_78 rfl (v := .ref (ad 61)) rfl dX2_readNumber_49 ?_
          refine j_bipush X (v := 48) (by decide) dX2_readNumber_52 ?_
          refine j_iload_n X 1 rfl rfl dX2_readNumber_54 ?_
          refine j_iconst X (v := 0) (by decide) dX2_readNumber_55 ?_
          refine j_callVNI X (nn := 3) (As := [.int 48, .int i1, .int 0]) (st := []) (ci := 4) cl_61.1 (wE_4 _ cl_61.2) rfl aw_339 aw_340 (x_X4_add l D y ad 61 48 i1 0 cl_61 _ _ h) (List.mem_of_getElem? (i := 23) rfl) aw_341 aw_41 (by decide +kernel) ⟨Nat.le_of_ble_eq_true rfl, Nat.le_of_ble_eq_true rfl⟩ rfl (Nat.le_of_ble_eq_true rfl) ⟨Nat.le_of_ble_eq_true rfl, Nat.le_of_ble_eq_true rfl⟩ dX2_readNumber_56 ?_
          intro r406 M406 h
          exact j_iret X hr hlocks dX2_readNumber_59 h
        · replace h := h.2 q_405
          refine j_bipush X (v := 10) (by decide) dX2_readNumber_19 ?_
          refine j_iload_n X 1 rfl rfl dX2_readNumber_21 ?_
          refine j_imul X dX2_readNumber_22 ?_
          refine j_aload_n X 0 rfl rfl dX2_readNumber_23 ?_
          refine j_callVI X (nn := 0) (As := []) (st := [.int (10 * i1)]) (ci := 2) cl_60.1 (wE_2 _ cl_60.2) rfl aw_333 aw_334 (x_X2_next l D y ad  _ _ h) aw_332 aw_335 aw_24 (by decide +kernel) ⟨Nat.le_of_ble_eq_true rfl, Nat.le_of_ble_eq_true rfl⟩ rfl (Nat.le_of_ble_eq_true rfl) ⟨Nat.le_of_ble_eq_true rfl, Nat.le_of_ble_eq_true rfl⟩ dX2_readNumber_24 ?_
          intro r407 M407 h
          refine j_iadd X dX2_readNumber_27 ?_
          refine j_bipush X (v := 48) (by decide) dX2_readNumber_28 ?_
          refine j_isub X dX2_readNumber_30 ?_
          refine j_istore_n X [(1, .int (((10 * i1) + r407) - 48)), (0, .ref (ad 60)), (2, .int i2)] rfl (by decide) rfl dX2_readNumber_31 ?_
          refine j_aload_n X 1 rfl rfl dX2_readNumber_32 ?_
          refine j_dup X rfl dX2_readNumber_33 ?_
          refine j_get X cl_60.1 (wE_2 _ cl_60.2) rfl awF2 3 (by decide) aw_323 rfl (v := .int (M407 60 3)) rfl dX2_readNumber_34 ?_
          refine j_iconst X (v := 1) (by decide) dX2_readNumber_37 ?_
          refine j_iadd X dX2_readNumber_38 ?_
          refine j_put X (up M407 60 3 ((M407 60 3) + 1)) up_o cl_60.1 (wE_2 _ cl_60.2) rfl awF2 3 (by decide) (wP_2_3 _ _ cl_60.2) tyX2 tyX2_ok nmX2 rfl (ty := .int) (by decide +kernel) rfl rfl (Nat.le_of_ble_eq_true rfl) aw_323 rfl dX2_readNumber_39 ?_
          refine j_iinc X (v := (i2 + 1)) 2 [(2, .int (i2 + 1)), (1, .int (((10 * i1) + r407) - 48)), (0, .ref (ad 60))] rfl rfl (by decide) rfl dX2_readNumber_42 ?_
          refine j_goto X 4 (by decide) dX2_readNumber_45 ?_
          refine j_lv (lv1 := [(0, .ref (ad 60)), (1, .int (((10 * i1) + r407) - 48)), (2, .int (i2 + 1))]) [2, 1, 0] rfl ?_
          exact hB4 _ _ _ h
  delta wp_X2_readNumber at h
  refine j_lv (lv1 := [(0, .ref (ad 60))]) [0] rfl ?_
  refine j_iconst X (v := 0) (by decide) dX2_readNumber_0 ?_
  refine j_istore_n X [(1, .int 0), (0, .ref (ad 60))] rfl (by decide) rfl dX2_readNumber_1 ?_
  refine j_iconst X (v := 0) (by decide) dX2_readNumber_2 ?_
  refine j_istore_n X [(2, .int 0), (1, .int 0), (0, .ref (ad 60))] rfl (by decide) rfl dX2_readNumber_3 ?_
  refine j_lv (lv1 := [(0, .ref (ad 60)), (1, .int 0), (2, .int 0)]) [2, 1, 0] rfl ?_
  obtain ⟨n4, h⟩ := h
  exact hL4    n4 _ _ _ h
theorem dX2_readLevel_36 : decode cX2_readLevel 36 = .ok (.iload 5, 2) := dk_21 (by decide +kernel)
theorem dX2_readLevel_38 : decode cX2_readLevel 38 = .ok (.iload 4, 2) := dk_21 (by decide +kernel)
theorem dX2_readLevel_40 : decode cX2_readLevel 40 = .ok (.if_icmp .ge 66, 3) := dk_162 (by decide +kernel)
theorem dX2_readLevel_106 : decode cX2_readLevel 106 = .ok (.iload_n 3, 1) := dk_29 (by decide +kernel)
theorem dX2_readLevel_107 : decode cX2_readLevel 107 = .ok (.ireturn, 1) := dk_172 (by decide +kernel)
theorem dX2_readLevel_43 : decode cX2_readLevel 43 = .ok (.aload_n 0, 1) := dk_42 (by decide +kernel)
theorem dX2_readLevel_44 : decode cX2_readLevel 44 = .ok (.getfield 41, 3) := dk_180 (by decide +kernel)
theorem dX2_readLevel_47 : decode cX2_readLevel 47 = .ok (.ifCond .ge 59, 3) := dk_156 (by decide +kernel)
theorem dX2_readLevel_50 : decode cX2_readLevel 50 = .ok (.aload_n 0, 1) := dk_42 (by decide +kernel)
theorem dX2_readLevel_51 : decode cX2_readLevel 51 = .ok (.invokevirtual 55, 3) := dk_182 (by decide +kernel)
theorem dX2_readLevel_54 : decode cX2_readLevel 54 = .ok (.invokestatic 59, 3) := dk_184 (by decide +kernel)
theorem dX2_readLevel_57 : decode cX2_readLevel 57 = .ok (.iload_n 1, 1) := dk_27 (by decide +kernel)
theorem dX2_readLevel_58 : decode cX2_readLevel 58 = .ok (.if_icmp .ne 48, 3) := dk_160 (by decide +kernel)
theorem dX2_readLevel_61 : decode cX2_readLevel 61 = .ok (.aload_n 0, 1) := dk_42 (by decide +kernel)
theorem dX2_readLevel_62 : decode cX2_readLevel 62 = .ok (.invokevirtual 55, 3) := dk_182 (by decide +kernel)
theorem dX2_readLevel_65 : decode cX2_readLevel 65 = .ok (.istore 6, 2) := dk_54 (by decide +kernel)
theorem dX2_readLevel_67 : decode cX2_readLevel 67 = .ok (.aload_n 0, 1) := dk_42 (by decide +kernel)
theorem dX2_readLevel_68 : decode cX2_readLevel 68 = .ok (.dup, 1) := dk_89 (by decide +kernel)
theorem dX2_readLevel_69 : decode cX2_readLevel 69 = .ok (.getfield 38, 3) := dk_180 (by decide +kernel)
theorem dX2_readLevel_72 : decode cX2_readLevel 72 = .ok (.iconst 1, 1) := dk_4 (by decide +kernel)
theorem dX2_readLevel_73 : decode cX2_readLevel 73 = .ok (.iadd, 1) := dk_96 (by decide +kernel)
theorem dX2_readLevel_74 : decode cX2_readLevel 74 = .ok (.putfield 38, 3) := dk_181 (by decide +kernel)
theorem dX2_readLevel_77 : decode cX2_readLevel 77 = .ok (.aload_n 0, 1) := dk_42 (by decide +kernel)
theorem dX2_readLevel_78 : decode cX2_readLevel 78 = .ok (.iload_n 1, 1) := dk_27 (by decide +kernel)
theorem dX2_readLevel_79 : decode cX2_readLevel 79 = .ok (.iconst 1, 1) := dk_4 (by decide +kernel)
theorem dX2_readLevel_80 : decode cX2_readLevel 80 = .ok (.iadd, 1) := dk_96 (by decide +kernel)
theorem dX2_readLevel_81 : decode cX2_readLevel 81 = .ok (.iload_n 2, 1) := dk_28 (by decide +kernel)
theorem dX2_readLevel_82 : decode cX2_readLevel 82 = .ok (.invokevirtual 48, 3) := dk_182 (by decide +kernel)
theorem dX2_readLevel_85 : decode cX2_readLevel 85 = .ok (.istore 7, 2) := dk_54 (by decide +kernel)
theorem dX2_readLevel_87 : decode cX2_readLevel 87 = .ok (.aload_n 0, 1) := dk_42 (by decide +kernel)
theorem dX2_readLevel_88 : decode cX2_readLevel 88 = .ok (.getfield 12, 3) := dk_180 (by decide +kernel)
theorem dX2_readLevel_91 : decode cX2_readLevel 91 = .ok (.iload 6, 2) := dk_21 (by decide +kernel)
theorem dX2_readLevel_93 : decode cX2_readLevel 93 = .ok (.iload_n 3, 1) := dk_29 (by decide +kernel)
theorem dX2_readLevel_94 : decode cX2_readLevel 94 = .ok (.iload 7, 2) := dk_21 (by decide +kernel)
theorem dX2_readLevel_96 : decode cX2_readLevel 96 = .ok (.invokevirtual 62, 3) := dk_182 (by decide +kernel)
theorem dX2_readLevel_99 : decode cX2_readLevel 99 = .ok (.istore_n 3, 1) := dk_62 (by decide +kernel)
theorem dX2_readLevel_100 : decode cX2_readLevel 100 = .ok (.iinc 5 1, 3) := dk_132 (by decide +kernel)
theorem dX2_readLevel_103 : decode cX2_readLevel 103 = .ok (.goto (-67), 3) := dk_167 (by decide +kernel)
theorem dX2_readLevel_0 : decode cX2_readLevel 0 = .ok (.iload_n 1, 1) := dk_27 (by decide +kernel)
theorem dX2_readLevel_1 : decode cX2_readLevel 1 = .ok (.iconst 5, 1) := dk_8 (by decide +kernel)
theorem dX2_readLevel_2 : decode cX2_readLevel 2 = .ok (.if_icmp .lt 9, 3) := dk_161 (by decide +kernel)
theorem dX2_readLevel_11 : decode cX2_readLevel 11 = .ok (.aload_n 0, 1) := dk_42 (by decide +kernel)
theorem dX2_readLevel_12 : decode cX2_readLevel 12 = .ok (.iload_n 1, 1) := dk_27 (by decide +kernel)
theorem dX2_readLevel_13 : decode cX2_readLevel 13 = .ok (.iconst 1, 1) := dk_4 (by decide +kernel)
theorem dX2_readLevel_14 : decode cX2_readLevel 14 = .ok (.iadd, 1) := dk_96 (by decide +kernel)
theorem dX2_readLevel_15 : decode cX2_readLevel 15 = .ok (.iload_n 2, 1) := dk_28 (by decide +kernel)
theorem dX2_readLevel_16 : decode cX2_readLevel 16 = .ok (.invokevirtual 48, 3) := dk_182 (by decide +kernel)
theorem dX2_readLevel_19 : decode cX2_readLevel 19 = .ok (.istore_n 3, 1) := dk_62 (by decide +kernel)
theorem dX2_readLevel_20 : decode cX2_readLevel 20 = .ok (.iload_n 1, 1) := dk_27 (by decide +kernel)
theorem dX2_readLevel_21 : decode cX2_readLevel 21 = .ok (.iconst 2, 1) := dk_5 (by decide +kernel)
theorem dX2_readLevel_22 : decode cX2_readLevel 22 = .ok (.if_icmp .ne 7, 3) := dk_160 (by decide +kernel)
theorem dX2_readLevel_29 : decode cX2_readLevel 29 = .ok (.bipush 50, 2) := dk_16 (by decide +kernel)
theorem dX2_readLevel_31 : decode cX2_readLevel 31 = .ok (.istore 4, 2) := dk_54 (by decide +kernel)
theorem dX2_readLevel_33 : decode cX2_readLevel 33 = .ok (.iconst 0, 1) := dk_3 (by decide +kernel)
theorem dX2_readLevel_34 : decode cX2_readLevel 34 = .ok (.istore 5, 2) := dk_54 (by decide +kernel)
theorem dX2_readLevel_25 : decode cX2_readLevel 25 = .ok (.iconst 1, 1) := dk_4 (by decide +kernel)
theorem dX2_readLevel_26 : decode cX2_readLevel 26 = .ok (.goto 5, 3) := dk_167 (by decide +kernel)
theorem dX2_readLevel_5 : decode cX2_readLevel 5 = .ok (.aload_n 0, 1) := dk_42 (by decide +kernel)
theorem dX2_readLevel_6 : decode cX2_readLevel 6 = .ok (.iload_n 2, 1) := dk_28 (by decide +kernel)
theorem dX2_readLevel_7 : decode cX2_readLevel 7 = .ok (.invokevirtual 51, 3) := dk_182 (by decide +kernel)
theorem dX2_readLevel_10 : decode cX2_readLevel 10 = .ok (.ireturn, 1) := dk_172 (by decide +kernel)
theorem dX2_readInnermost_63 : decode cX2_readInnermost 63 = .ok (.iload_n 1, 1) := dk_27 (by decide +kernel)
theorem dX2_readInnermost_64 : decode cX2_readInnermost 64 = .ok (.iconst 5, 1) := dk_8 (by decide +kernel)
theorem dX2_readInnermost_65 : decode cX2_readInnermost 65 = .ok (.if_icmp .ge 37, 3) := dk_162 (by decide +kernel)
theorem dX2_readInnermost_102 : decode cX2_readInnermost 102 = .ok (.aload_n 0, 1) := dk_42 (by decide +kernel)
theorem dX2_readInnermost_103 : decode cX2_readInnermost 103 = .ok (.invokevirtual 82, 3) := dk_182 (by decide +kernel)
theorem dX2_readInnermost_106 : decode cX2_readInnermost 106 = .ok (.ireturn, 1) := dk_172 (by decide +kernel)
theorem dX2_readInnermost_68 : decode cX2_readInnermost 68 = .ok (.aload_n 0, 1) := dk_42 (by decide +kernel)
theorem dX2_readInnermost_69 : decode cX2_readInnermost 69 = .ok (.dup, 1) := dk_89 (by decide +kernel)
theorem dX2_readInnermost_70 : decode cX2_readInnermost 70 = .ok (.getfield 38, 3) := dk_180 (by decide +kernel)
theorem dX2_readInnermost_73 : decode cX2_readInnermost 73 = .ok (.iconst 1, 1) := dk_4 (by decide +kernel)
theorem dX2_readInnermost_74 : decode cX2_readInnermost 74 = .ok (.iadd, 1) := dk_96 (by decide +kernel)
theorem dX2_readInnermost_75 : decode cX2_readInnermost 75 = .ok (.putfield 38, 3) := dk_181 (by decide +kernel)
theorem dX2_readInnermost_78 : decode cX2_readInnermost 78 = .ok (.iload_n 2, 1) := dk_28 (by decide +kernel)
theorem dX2_readInnermost_79 : decode cX2_readInnermost 79 = .ok (.bipush 33, 2) := dk_16 (by decide +kernel)
theorem dX2_readInnermost_81 : decode cX2_readInnermost 81 = .ok (.if_icmp .ne 13, 3) := dk_160 (by decide +kernel)
theorem dX2_readInnermost_94 : decode cX2_readInnermost 94 = .ok (.aload_n 0, 1) := dk_42 (by decide +kernel)
theorem dX2_readInnermost_95 : decode cX2_readInnermost 95 = .ok (.iload_n 1, 1) := dk_27 (by decide +kernel)
theorem dX2_readInnermost_96 : decode cX2_readInnermost 96 = .ok (.iconst 1, 1) := dk_4 (by decide +kernel)
theorem dX2_readInnermost_97 : decode cX2_readInnermost 97 = .ok (.iadd, 1) := dk_96 (by decide +kernel)
theorem dX2_readInnermost_98 : decode cX2_readInnermost 98 = .ok (.invokevirtual 79, 3) := dk_182 (by decide +kernel)
theorem dX2_readInnermost_101 : decode cX2_readInnermost 101 = .ok (.ireturn, 1) := dk_172 (by decide +kernel)
theorem dX2_readInnermost_84 : decode cX2_readInnermost 84 = .ok (.aload_n 0, 1) := dk_42 (by decide +kernel)
theorem dX2_readInnermost_85 : decode cX2_readInnermost 85 = .ok (.iload_n 1, 1) := dk_27 (by decide +kernel)
theorem dX2_readInnermost_86 : decode cX2_readInnermost 86 = .ok (.iconst 1, 1) := dk_4 (by decide +kernel)
theorem dX2_readInnermost_87 : decode cX2_readInnermost 87 = .ok (.iadd, 1) := dk_96 (by decide +kernel)
theorem dX2_readInnermost_88 : decode cX2_readInnermost 88 = .ok (.invokevirtual 76, 3) := dk_182 (by decide +kernel)
theorem dX2_readInnermost_91 : decode cX2_readInnermost 91 = .ok (.goto 10, 3) := dk_167 (by decide +kernel)
theorem dX2_readInnermost_0 : decode cX2_readInnermost 0 = .ok (.aload_n 0, 1) := dk_42 (by decide +kernel)
theorem dX2_readInnermost_1 : decode cX2_readInnermost 1 = .ok (.invokevirtual 55, 3) := dk_182 (by decide +kernel)
theorem dX2_readInnermost_4 : decode cX2_readInnermost 4 = .ok (.istore_n 2, 1) := dk_61 (by decide +kernel)
theorem dX2_readInnermost_5 : decode cX2_readInnermost 5 = .ok (.iload_n 2, 1) := dk_28 (by decide +kernel)
theorem dX2_readInnermost_6 : decode cX2_readInnermost 6 = .ok (.invokestatic 66, 3) := dk_184 (by decide +kernel)
theorem dX2_readInnermost_9 : decode cX2_readInnermost 9 = .ok (.ifCond .eq 8, 3) := dk_153 (by decide +kernel)
theorem dX2_readInnermost_17 : decode cX2_readInnermost 17 = .ok (.aload_n 0, 1) := dk_42 (by decide +kernel)
theorem dX2_readInnermost_18 : decode cX2_readInnermost 18 = .ok (.iload_n 2, 1) := dk_28 (by decide +kernel)
theorem dX2_readInnermost_19 : decode cX2_readInnermost 19 = .ok (.invokevirtual 73, 3) := dk_182 (by decide +kernel)
theorem dX2_readInnermost_22 : decode cX2_readInnermost 22 = .ok (.ifCond .lt 29, 3) := dk_155 (by decide +kernel)
theorem dX2_readInnermost_51 : decode cX2_readInnermost 51 = .ok (.iload_n 2, 1) := dk_28 (by decide +kernel)
theorem dX2_readInnermost_52 : decode cX2_readInnermost 52 = .ok (.bipush 33, 2) := dk_16 (by decide +kernel)
theorem dX2_readInnermost_54 : decode cX2_readInnermost 54 = .ok (.if_icmp .eq 9, 3) := dk_159 (by decide +kernel)
theorem dX2_readInnermost_57 : decode cX2_readInnermost 57 = .ok (.iload_n 2, 1) := dk_28 (by decide +kernel)
theorem dX2_readInnermost_58 : decode cX2_readInnermost 58 = .ok (.bipush 40, 2) := dk_16 (by decide +kernel)
theorem dX2_readInnermost_60 : decode cX2_readInnermost 60 = .ok (.if_icmp .ne 42, 3) := dk_160 (by decide +kernel)
theorem dX2_readInnermost_25 : decode cX2_readInnermost 25 = .ok (.aload_n 0, 1) := dk_42 (by decide +kernel)
theorem dX2_readInnermost_26 : decode cX2_readInnermost 26 = .ok (.dup, 1) := dk_89 (by decide +kernel)
theorem dX2_readInnermost_27 : decode cX2_readInnermost 27 = .ok (.getfield 38, 3) := dk_180 (by decide +kernel)
theorem dX2_readInnermost_30 : decode cX2_readInnermost 30 = .ok (.iconst 1, 1) := dk_4 (by decide +kernel)
theorem dX2_readInnermost_31 : decode cX2_readInnermost 31 = .ok (.iadd, 1) := dk_96 (by decide +kernel)
theorem dX2_readInnermost_32 : decode cX2_readInnermost 32 = .ok (.putfield 38, 3) := dk_181 (by decide +kernel)
theorem dX2_readInnermost_35 : decode cX2_readInnermost 35 = .ok (.aload_n 0, 1) := dk_42 (by decide +kernel)
theorem dX2_readInnermost_36 : decode cX2_readInnermost 36 = .ok (.getfield 12, 3) := dk_180 (by decide +kernel)
theorem dX2_readInnermost_39 : decode cX2_readInnermost 39 = .ok (.bipush 110, 2) := dk_16 (by decide +kernel)
theorem dX2_readInnermost_41 : decode cX2_readInnermost 41 = .ok (.aload_n 0, 1) := dk_42 (by decide +kernel)
theorem dX2_readInnermost_42 : decode cX2_readInnermost 42 = .ok (.iload_n 2, 1) := dk_28 (by decide +kernel)
theorem dX2_readInnermost_43 : decode cX2_readInnermost 43 = .ok (.invokevirtual 73, 3) := dk_182 (by decide +kernel)
theorem dX2_readInnermost_46 : decode cX2_readInnermost 46 = .ok (.iconst 0, 1) := dk_3 (by decide +kernel)
theorem dX2_readInnermost_47 : decode cX2_readInnermost 47 = .ok (.invokevirtual 62, 3) := dk_182 (by decide +kernel)
theorem dX2_readInnermost_50 : decode cX2_readInnermost 50 = .ok (.ireturn, 1) := dk_172 (by decide +kernel)
theorem dX2_readInnermost_12 : decode cX2_readInnermost 12 = .ok (.aload_n 0, 1) := dk_42 (by decide +kernel)
theorem dX2_readInnermost_13 : decode cX2_readInnermost 13 = .ok (.invokevirtual 70, 3) := dk_182 (by decide +kernel)
theorem dX2_readInnermost_16 : decode cX2_readInnermost 16 = .ok (.ireturn, 1) := dk_172 (by decide +kernel)
theorem dX2_readNot_0 : decode cX2_readNot 0 = .ok (.aload_n 0, 1) := dk_42 (by decide +kernel)
theorem dX2_readNot_1 : decode cX2_readNot 1 = .ok (.iload_n 1, 1) := dk_27 (by decide +kernel)
theorem dX2_readNot_2 : decode cX2_readNot 2 = .ok (.invokevirtual 51, 3) := dk_182 (by decide +kernel)
theorem dX2_readNot_5 : decode cX2_readNot 5 = .ok (.istore_n 2, 1) := dk_61 (by decide +kernel)
theorem dX2_readNot_6 : decode cX2_readNot 6 = .ok (.aload_n 0, 1) := dk_42 (by decide +kernel)
theorem dX2_readNot_7 : decode cX2_readNot 7 = .ok (.getfield 12, 3) := dk_180 (by decide +kernel)
theorem dX2_readNot_10 : decode cX2_readNot 10 = .ok (.bipush 33, 2) := dk_16 (by decide +kernel)
theorem dX2_readNot_12 : decode cX2_readNot 12 = .ok (.iload_n 2, 1) := dk_28 (by decide +kernel)
theorem dX2_readNot_13 : decode cX2_readNot 13 = .ok (.iload_n 2, 1) := dk_28 (by decide +kernel)
theorem dX2_readNot_14 : decode cX2_readNot 14 = .ok (.invokevirtual 62, 3) := dk_182 (by decide +kernel)
theorem dX2_readNot_17 : decode cX2_readNot 17 = .ok (.ireturn, 1) := dk_172 (by decide +kernel)
theorem dX2_readBrackets_0 : decode cX2_readBrackets 0 = .ok (.aload_n 0, 1) := dk_42 (by decide +kernel)
theorem dX2_readBrackets_1 : decode cX2_readBrackets 1 = .ok (.iconst 0, 1) := dk_3 (by decide +kernel)
theorem dX2_readBrackets_2 : decode cX2_readBrackets 2 = .ok (.iload_n 1, 1) := dk_27 (by decide +kernel)
theorem dX2_readBrackets_3 : decode cX2_readBrackets 3 = .ok (.invokevirtual 48, 3) := dk_182 (by decide +kernel)
theorem dX2_readBrackets_6 : decode cX2_readBrackets 6 = .ok (.istore_n 2, 1) := dk_61 (by decide +kernel)
theorem dX2_readBrackets_7 : decode cX2_readBrackets 7 = .ok (.aload_n 0, 1) := dk_42 (by decide +kernel)
theorem dX2_readBrackets_8 : decode cX2_readBrackets 8 = .ok (.getfield 41, 3) := dk_180 (by decide +kernel)
theorem dX2_readBrackets_11 : decode cX2_readBrackets 11 = .ok (.ifCond .ge 12, 3) := dk_156 (by decide +kernel)
theorem dX2_readBrackets_23 : decode cX2_readBrackets 23 = .ok (.aload_n 0, 1) := dk_42 (by decide +kernel)
theorem dX2_readBrackets_24 : decode cX2_readBrackets 24 = .ok (.invokevirtual 82, 3) := dk_182 (by decide +kernel)
theorem dX2_readBrackets_27 : decode cX2_readBrackets 27 = .ok (.ireturn, 1) := dk_172 (by decide +kernel)
theorem dX2_readBrackets_14 : decode cX2_readBrackets 14 = .ok (.aload_n 0, 1) := dk_42 (by decide +kernel)
theorem dX2_readBrackets_15 : decode cX2_readBrackets 15 = .ok (.invokevirtual 55, 3) := dk_182 (by decide +kernel)
theorem dX2_readBrackets_18 : decode cX2_readBrackets 18 = .ok (.bipush 41, 2) := dk_16 (by decide +kernel)
theorem dX2_readBrackets_20 : decode cX2_readBrackets 20 = .ok (.if_icmp .eq 8, 3) := dk_159 (by decide +kernel)
theorem dX2_readBrackets_28 : decode cX2_readBrackets 28 = .ok (.aload_n 0, 1) := dk_42 (by decide +kernel)
theorem dX2_readBrackets_29 : decode cX2_readBrackets 29 = .ok (.dup, 1) := dk_89 (by decide +kernel)
theorem dX2_readBrackets_30 : decode cX2_readBrackets 30 = .ok (.getfield 38, 3) := dk_180 (by decide +kernel)
theorem dX2_readBrackets_33 : decode cX2_readBrackets 33 = .ok (.iconst 1, 1) := dk_4 (by decide +kernel)
theorem dX2_readBrackets_34 : decode cX2_readBrackets 34 = .ok (.iadd, 1) := dk_96 (by decide +kernel)
theorem dX2_readBrackets_35 : decode cX2_readBrackets 35 = .ok (.putfield 38, 3) := dk_181 (by decide +kernel)
theorem dX2_readBrackets_38 : decode cX2_readBrackets 38 = .ok (.iload_n 2, 1) := dk_28 (by decide +kernel)
theorem dX2_readBrackets_39 : decode cX2_readBrackets 39 = .ok (.ireturn, 1) := dk_172 (by decide +kernel)
set_option maxRecDepth 100000 in
set_option maxHeartbeats 8000000 in
theorem xg_X2_readLevel (l : Launch) (D : va_G) (y : wY) (ad : Nat → Nat) : ∀ n : Nat, (∀ (i1 : Int32) (i2 : Int32) (M : Mem) (K : Int32 → Mem → Prop), wp_X2_readLevel n i1 i2 M K → MI l D y ad yX2_readLevel (Cond.code yX2_readLevel cX2_readLevel 8 (some .int)) (n + 3) M [.ref (ad 60), .int i1, .int i2] K) ∧ (∀ (i1 : Int32) (M : Mem) (K : Int32 → Mem → Prop), wp_X2_readInnermost n i1 M K → MI l D y ad yX2_readInnermost (Cond.code yX2_readInnermost cX2_readInnermost 3 (some .int)) (n + 3) M [.ref (ad 60), .int i1] K) ∧ (∀ (i1 : Int32) (M : Mem) (K : Int32 → Mem → Prop), wp_X2_readNot n i1 M K → MI l D y ad yX2_readNot (Cond.code yX2_readNot cX2_readNot 3 (some .int)) (n + 3) M [.ref (ad 60), .int i1] K) ∧ (∀ (i1 : Int32) (M : Mem) (K : Int32 → Mem → Prop), wp_X2_readBrackets n i1 M K → MI l D y ad yX2_readBrackets (Cond.code yX2_readBrackets cX2_readBrackets 3 (some .int)) (n + 3) M [.ref (ad 60), .int i1] K) := by
  intro n0
  induction n0 with
  | zero => refine ⟨?_, ?_, ?_, ?_⟩ <;> (intros; rename_i h; exact False.elim h)
  | succ n0 ih =>
    refine ⟨?_, ?_, ?_, ?_⟩
    · intro i1 i2 M K h
      refine MI_of (by decide) (Nat.le_of_ble_eq_true rfl) ?_
      intro p e s m args below meth c X hr hlocks
      have hL36 : ∀ (i1 : Int32) (i2 : Int32) (i4 : Int32) (n : Nat) (i3 : Int32) (i5 : Int32) (Mb : Mem), wp_X2_readLevel_L36 (wp_X2_readLevel n0) (wp_X2_readInnermost n0) (wp_X2_readNot n0) (wp_X2_readBrackets n0) K i1 i2 i4 n i3 i5 Mb → J p l e (rmN (n0 + 1 + 3)) s m args below meth c 0 0 (QI K D y ad M s args below) D y ad (va_A (PL y ad M) s.heap.size) 8 Mb 36 [(0, .ref (ad 60)), (1, .int i1), (2, .int i2), (3, .int i3), (4, .int i4), (5, .int i5)] [] := by
        intro i1 i2 i4 n
        induction n with
        | zero => intro i3 i5 Mb h; exact False.elim h
        | succ n hB36 =>
          intro i3 i5 Mb h
          replace h : wp_X2_readLevel_l36 (wp_X2_readLevel n0) (wp_X2_readInnermost n0) (wp_X2_readNot n0) (wp_X2_readBrackets n0) K i1 i2 i4 (wp_X2_readLevel_L36 (wp_X2_readLevel n0) (wp_X2_readInnermost n0) (wp_X2_readNot n0) (wp_X2_readBrackets n0) K i1 i2 i4 n) i3 i5 Mb := h
          delta wp_X2_readLevel_l36 at h
          refine j_iload X 5 rfl dX2_readLevel_36 ?_
          refine j_iload X 4 rfl dX2_readLevel_38 ?_
          refine j_icmp_ge X 106 (by decide) dX2_readLevel_40 (fun q_3601 => ?_) (fun q_3601 => ?_)
          · replace h := h.1 q_3601
            refine j_iload_n X 3 rfl rfl dX2_readLevel_106 ?_
            exact j_iret X hr hlocks dX2_readLevel_107 h
          · replace h := h.2 q_3601
            refine j_aload_n X 0 rfl rfl dX2_readLevel_43 ?_
            refine j_get X cl_60.1 (wE_2 _ cl_60.2) rfl awF2 4 (by decide) aw_324 rfl (v := .int (Mb 60 4)) rfl dX2_readLevel_44 ?_
            refine j_if_ge X 106 (by decide) dX2_readLevel_47 (fun q_3602 => ?_) (fun q_3602 => ?_)
            · replace h := h.1 q_3602
              refine j_iload_n X 3 rfl rfl dX2_readLevel_106 ?_
              exact j_iret X hr hlocks dX2_readLevel_107 h
            · replace h := h.2 q_3602
              refine j_aload_n X 0 rfl rfl dX2_readLevel_50 ?_
              refine j_callVI X (nn := 0) (As := []) (st := []) (ci := 2) cl_60.1 (wE_2 _ cl_60.2) rfl aw_333 aw_334 (x_X2_next l D y ad  _ _ h) aw_332 aw_335 aw_24 (by decide +kernel) ⟨(by show _ + 1 ≤ _ + 1 + _; omega), (by show 8 + (_ + 11) + 60 * _ ≤ 60 * _; omega)⟩ rfl (Nat.le_of_ble_eq_true rfl) ⟨Nat.le_of_ble_eq_true rfl, Nat.le_of_ble_eq_true rfl⟩ dX2_readLevel_51 ?_
              intro r3603 M3603 h
              refine j_callSI X (nn := 1) (As := [.int r3603]) (st := []) aw_337 (x_X2_levelOf l D y ad r3603 _ _ h) aw_336 aw_338 aw_24 (by decide +kernel) ⟨(by show _ + 1 ≤ _ + 1 + _; omega), (by show 8 + (_ + 11) + 60 * _ ≤ 60 * _; omega)⟩ rfl (Nat.le_of_ble_eq_true rfl) ⟨Nat.le_of_ble_eq_true rfl, Nat.le_of_ble_eq_true rfl⟩ dX2_readLevel_54 ?_
              intro r3604 M3604 h
              refine j_iload_n X 1 rfl rfl dX2_readLevel_57 ?_
              refine j_icmp_ne X 106 (by decide) dX2_readLevel_58 (fun q_3605 => ?_) (fun q_3605 => ?_)
              · replace h := h.1 q_3605
                refine j_iload_n X 3 rfl rfl dX2_readLevel_106 ?_
                exact j_iret X hr hlocks dX2_readLevel_107 h
              · replace h := h.2 q_3605
                refine j_aload_n X 0 rfl rfl dX2_readLevel_61 ?_
                refine j_callVI X (nn := 0) (As := []) (st := []) (ci := 2) cl_60.1 (wE_2 _ cl_60.2) rfl aw_333 aw_334 (x_X2_next l D y ad  _ _ h) aw_332 aw_335 aw_24 (by decide +kernel) ⟨(by show _ + 1 ≤ _ + 1 + _; omega), (by show 8 + (_ + 11) + 60 * _ ≤ 60 * _; omega)⟩ rfl (Nat.le_of_ble_eq_true rfl) ⟨Nat.le_of_ble_eq_true rfl, Nat.le_of_ble_eq_true rfl⟩ dX2_readLevel_62 ?_
                intro r3606 M3606 h
                refine j_istore X [(6, .int r3606), (0, .ref (ad 60)), (1, .int i1), (2, .int i2), (3, .int i3), (4, .int i4), (5, .int i5)] (by decide) rfl dX2_readLevel_65 ?_
                refine j_aload_n X 1 rfl rfl dX2_readLevel_67 ?_
                refine j_dup X rfl dX2_readLevel_68 ?_
                refine j_get X cl_60.1 (wE_2 _ cl_60.2) rfl awF2 3 (by decide) aw_323 rfl (v := .int (M3606 60 3)) rfl dX2_readLevel_69 ?_
                refine j_iconst X (v := 1) (by decide) dX2_readLevel_72 ?_
                refine j_iadd X dX2_readLevel_73 ?_
                refine j_put X (up M3606 60 3 ((M3606 60 3) + 1)) up_o cl_60.1 (wE_2 _ cl_60.2) rfl awF2 3 (by decide) (wP_2_3 _ _ cl_60.2) tyX2 tyX2_ok nmX2 rfl (ty := .int) (by decide +kernel) rfl rfl (Nat.le_of_ble_eq_true rfl) aw_323 rfl dX2_readLevel_74 ?_
                refine j_aload_n X 1 rfl rfl dX2_readLevel_77 ?_
                refine j_iload_n X 2 rfl rfl dX2_readLevel_78 ?_
                refine j_iconst X (v := 1) (by decide) dX2_readLevel_79 ?_
                refine j_iadd X dX2_readLevel_80 ?_
                refine j_iload_n X 3 rfl rfl dX2_readLevel_81 ?_
                refine j_callVI X (nn := 2) (As := [.int (i1 + 1), .int i2]) (st := []) (ci := 2) cl_60.1 (wE_2 _ cl_60.2) rfl aw_326 aw_327 (ih.1 (i1 + 1) i2 _ _ h) aw_325 aw_328 aw_24 (by decide +kernel) ⟨(by show _ + 1 ≤ _ + 1 + _; omega), (by show 8 + (_ + 11) + 60 * _ ≤ 60 * _; omega)⟩ rfl (Nat.le_of_ble_eq_true rfl) ⟨Nat.le_of_ble_eq_true rfl, Nat.le_of_ble_eq_true rfl⟩ dX2_readLevel_82 ?_
                intro r3607 M3607 h
                refine j_istore X [(7, .int r3607), (6, .int r3606), (0, .ref (ad 60)), (1, .int i1), (2, .int i2), (3, .int i3), (4, .int i4), (5, .int i5)] (by decide) rfl dX2_readLevel_85 ?_
                refine j_aload_n X 2 rfl rfl dX2_readLevel_87 ?_
                refine j_get X cl_60.1 (wE_2 _ cl_60.2) rfl awF2 0 (by decide) aw_78 rfl (v := .ref (ad 61)) rfl dX2_readLevel_88 ?_
                refine j_iload X 1 rfl dX2_readLevel_91 ?_
                refine j_iload_n X 5 rfl rfl dX2_readLevel_93 ?_
                refine j_iload X 0 rfl dX2_readLevel_94 ?_
                refine j_callVNI X (nn := 3) (As := [.int r3606, .int i3, .int r3607]) (st := []) (ci := 4) cl_61.1 (wE_4 _ cl_61.2) rfl aw_339 aw_340 (x_X4_add l D y ad 61 r3606 i3 r3607 cl_61 _ _ h) (List.mem_of_getElem? (i := 23) rfl) aw_341 aw_41 (by decide +kernel) ⟨(by show _ + 1 ≤ _ + 1 + _; omega), (by show 8 + (_ + 11) + 60 * _ ≤ 60 * _; omega)⟩ rfl (Nat.le_of_ble_eq_true rfl) ⟨Nat.le_of_ble_eq_true rfl, Nat.le_of_ble_eq_true rfl⟩ dX2_readLevel_96 ?_
                intro r3608 M3608 h
                refine j_istore_n X [(3, .int r3608), (7, .int r3607), (6, .int r3606), (0, .ref (ad 60)), (1, .int i1), (2, .int i2), (4, .int i4), (5, .int i5)] rfl (by decide) rfl dX2_readLevel_99 ?_
                refine j_iinc X (v := (i5 + 1)) 7 [(5, .int (i5 + 1)), (3, .int r3608), (7, .int r3607), (6, .int r3606), (0, .ref (ad 60)), (1, .int i1), (2, .int i2), (4, .int i4)] rfl rfl (by decide) rfl dX2_readLevel_100 ?_
                refine j_goto X 36 (by decide) dX2_readLevel_103 ?_
                refine j_lv (lv1 := [(0, .ref (ad 60)), (1, .int i1), (2, .int i2), (3, .int r3608), (4, .int i4), (5, .int (i5 + 1))]) [4, 5, 6, 1, 7, 0] rfl ?_
                exact hB36 _ _ _ h
      replace h : wpb_X2_readLevel (wp_X2_readLevel n0) (wp_X2_readInnermost n0) (wp_X2_readNot n0) (wp_X2_readBrackets n0) i1 i2 M K := h
      delta wpb_X2_readLevel at h
      refine j_lv (lv1 := [(0, .ref (ad 60)), (1, .int i1), (2, .int i2)]) [0, 1, 2] rfl ?_
      refine j_iload_n X 1 rfl rfl dX2_readLevel_0 ?_
      refine j_iconst X (v := 5) (by decide) dX2_readLevel_1 ?_
      refine j_icmp_lt X 11 (by decide) dX2_readLevel_2 (fun q_1 => ?_) (fun q_1 => ?_)
      · replace h := h.1 q_1
        refine j_aload_n X 0 rfl rfl dX2_readLevel_11 ?_
        refine j_iload_n X 1 rfl rfl dX2_readLevel_12 ?_
        refine j_iconst X (v := 1) (by decide) dX2_readLevel_13 ?_
        refine j_iadd X dX2_readLevel_14 ?_
        refine j_iload_n X 2 rfl rfl dX2_readLevel_15 ?_
        refine j_callVI X (nn := 2) (As := [.int (i1 + 1), .int i2]) (st := []) (ci := 2) cl_60.1 (wE_2 _ cl_60.2) rfl aw_326 aw_327 (ih.1 (i1 + 1) i2 _ _ h) aw_325 aw_328 aw_24 (by decide +kernel) ⟨(by show _ + 1 ≤ _ + 1 + _; omega), (by show 8 + (_ + 11) + 60 * _ ≤ 60 * _; omega)⟩ rfl (Nat.le_of_ble_eq_true rfl) ⟨Nat.le_of_ble_eq_true rfl, Nat.le_of_ble_eq_true rfl⟩ dX2_readLevel_16 ?_
        intro r2 M2 h
        refine j_istore_n X [(3, .int r2), (0, .ref (ad 60)), (1, .int i1), (2, .int i2)] rfl (by decide) rfl dX2_readLevel_19 ?_
        refine j_iload_n X 2 rfl rfl dX2_readLevel_20 ?_
        refine j_iconst X (v := 2) (by decide) dX2_readLevel_21 ?_
        refine j_icmp_ne X 29 (by decide) dX2_readLevel_22 (fun q_3 => ?_) (fun q_3 => ?_)
        · replace h := h.1 q_3
          refine j_bipush X (v := 50) (by decide) dX2_readLevel_29 ?_
          refine j_istore X [(4, .int 50), (3, .int r2), (0, .ref (ad 60)), (1, .int i1), (2, .int i2)] (by decide) rfl dX2_readLevel_31 ?_
          refine j_iconst X (v := 0) (by decide) dX2_readLevel_33 ?_
          refine j_istore X [(5, .int 0), (4, .int 50), (3, .int r2), (0, .ref (ad 60)), (1, .int i1), (2, .int i2)] (by decide) rfl dX2_readLevel_34 ?_
          refine j_lv (lv1 := [(0, .ref (ad 60)), (1, .int i1), (2, .int i2), (3, .int r2), (4, .int 50), (5, .int 0)]) [3, 4, 5, 2, 1, 0] rfl ?_
          obtain ⟨n36, h⟩ := h
          exact hL36 _ _ _   n36 _ _ _ h
        · replace h := h.2 q_3
          refine j_iconst X (v := 1) (by decide) dX2_readLevel_25 ?_
          refine j_goto X 31 (by decide) dX2_readLevel_26 ?_
          refine j_istore X [(4, .int 1), (3, .int r2), (0, .ref (ad 60)), (1, .int i1), (2, .int i2)] (by decide) rfl dX2_readLevel_31 ?_
          refine j_iconst X (v := 0) (by decide) dX2_readLevel_33 ?_
          refine j_istore X [(5, .int 0), (4, .int 1), (3, .int r2), (0, .ref (ad 60)), (1, .int i1), (2, .int i2)] (by decide) rfl dX2_readLevel_34 ?_
          refine j_lv (lv1 := [(0, .ref (ad 60)), (1, .int i1), (2, .int i2), (3, .int r2), (4, .int 1), (5, .int 0)]) [3, 4, 5, 2, 1, 0] rfl ?_
          obtain ⟨n36, h⟩ := h
          exact hL36 _ _ _   n36 _ _ _ h
      · replace h := h.2 q_1
        refine j_aload_n X 0 rfl rfl dX2_readLevel_5 ?_
        refine j_iload_n X 2 rfl rfl dX2_readLevel_6 ?_
        refine j_callVI X (nn := 1) (As := [.int i2]) (st := []) (ci := 2) cl_60.1 (wE_2 _ cl_60.2) rfl aw_330 aw_331 (ih.2.1 i2 _ _ h) aw_329 aw_347 aw_24 (by decide +kernel) ⟨(by show _ + 1 ≤ _ + 1 + _; omega), (by show 8 + (_ + 11) + 60 * _ ≤ 60 * _; omega)⟩ rfl (Nat.le_of_ble_eq_true rfl) ⟨Nat.le_of_ble_eq_true rfl, Nat.le_of_ble_eq_true rfl⟩ dX2_readLevel_7 ?_
        intro r4 M4 h
        exact j_iret X hr hlocks dX2_readLevel_10 h
    · intro i1 M K h
      refine MI_of (by decide) (Nat.le_of_ble_eq_true rfl) ?_
      intro p e s m args below meth c X hr hlocks
      have hb63 : ∀ (i1 : Int32) (i2 : Int32) (Mb : Mem), wp_X2_readInnermost_b63 (wp_X2_readLevel n0) (wp_X2_readInnermost n0) (wp_X2_readNot n0) (wp_X2_readBrackets n0) K i1 i2 Mb → J p l e (rmN (n0 + 1 + 3)) s m args below meth c 0 0 (QI K D y ad M s args below) D y ad (va_A (PL y ad M) s.heap.size) 3 Mb 63 [(0, .ref (ad 60)), (1, .int i1), (2, .int i2)] [] := by
        intro i1 i2 Mb h
        delta wp_X2_readInnermost_b63 at h
        refine j_iload_n X 1 rfl rfl dX2_readInnermost_63 ?_
        refine j_iconst X (v := 5) (by decide) dX2_readInnermost_64 ?_
        refine j_icmp_ge X 102 (by decide) dX2_readInnermost_65 (fun q_6301 => ?_) (fun q_6301 => ?_)
        · replace h := h.1 q_6301
          refine j_aload_n X 0 rfl rfl dX2_readInnermost_102 ?_
          refine j_callVI X (nn := 0) (As := []) (st := []) (ci := 2) cl_60.1 (wE_2 _ cl_60.2) rfl aw_344 aw_345 (x_X2_stop l D y ad  _ _ h) aw_343 aw_346 aw_24 (by decide +kernel) ⟨(by show _ + 1 ≤ _ + 1 + _; omega), (by show 8 + (_ + 11) + 60 * _ ≤ 60 * _; omega)⟩ rfl (Nat.le_of_ble_eq_true rfl) ⟨Nat.le_of_ble_eq_true rfl, Nat.le_of_ble_eq_true rfl⟩ dX2_readInnermost_103 ?_
          intro r6302 M6302 h
          exact j_iret X hr hlocks dX2_readInnermost_106 h
        · replace h := h.2 q_6301
          refine j_aload_n X 0 rfl rfl dX2_readInnermost_68 ?_
          refine j_dup X rfl dX2_readInnermost_69 ?_
          refine j_get X cl_60.1 (wE_2 _ cl_60.2) rfl awF2 3 (by decide) aw_323 rfl (v := .int (Mb 60 3)) rfl dX2_readInnermost_70 ?_
          refine j_iconst X (v := 1) (by decide) dX2_readInnermost_73 ?_
          refine j_iadd X dX2_readInnermost_74 ?_
          refine j_put X (up Mb 60 3 ((Mb 60 3) + 1)) up_o cl_60.1 (wE_2 _ cl_60.2) rfl awF2 3 (by decide) (wP_2_3 _ _ cl_60.2) tyX2 tyX2_ok nmX2 rfl (ty := .int) (by decide +kernel) rfl rfl (Nat.le_of_ble_eq_true rfl) aw_323 rfl dX2_readInnermost_75 ?_
          refine j_iload_n X 2 rfl rfl dX2_readInnermost_78 ?_
          refine j_bipush X (v := 33) (by decide) dX2_readInnermost_79 ?_
          refine j_icmp_ne X 94 (by decide) dX2_readInnermost_81 (fun q_6303 => ?_) (fun q_6303 => ?_)
          · replace h := h.1 q_6303
            refine j_aload_n X 0 rfl rfl dX2_readInnermost_94 ?_
            refine j_iload_n X 1 rfl rfl dX2_readInnermost_95 ?_
            refine j_iconst X (v := 1) (by decide) dX2_readInnermost_96 ?_
            refine j_iadd X dX2_readInnermost_97 ?_
            refine j_callVI X (nn := 1) (As := [.int (i1 + 1)]) (st := []) (ci := 2) cl_60.1 (wE_2 _ cl_60.2) rfl aw_363 aw_364 (ih.2.2.2 (i1 + 1) _ _ h) aw_362 aw_342 aw_24 (by decide +kernel) ⟨(by show _ + 1 ≤ _ + 1 + _; omega), (by show 8 + (_ + 11) + 60 * _ ≤ 60 * _; omega)⟩ rfl (Nat.le_of_ble_eq_true rfl) ⟨Nat.le_of_ble_eq_true rfl, Nat.le_of_ble_eq_true rfl⟩ dX2_readInnermost_98 ?_
            intro r6304 M6304 h
            exact j_iret X hr hlocks dX2_readInnermost_101 h
          · replace h := h.2 q_6303
            refine j_aload_n X 0 rfl rfl dX2_readInnermost_84 ?_
            refine j_iload_n X 1 rfl rfl dX2_readInnermost_85 ?_
            refine j_iconst X (v := 1) (by decide) dX2_readInnermost_86 ?_
            refine j_iadd X dX2_readInnermost_87 ?_
            refine j_callVI X (nn := 1) (As := [.int (i1 + 1)]) (st := []) (ci := 2) cl_60.1 (wE_2 _ cl_60.2) rfl aw_360 aw_361 (ih.2.2.1 (i1 + 1) _ _ h) aw_359 aw_365 aw_24 (by decide +kernel) ⟨(by show _ + 1 ≤ _ + 1 + _; omega), (by show 8 + (_ + 11) + 60 * _ ≤ 60 * _; omega)⟩ rfl (Nat.le_of_ble_eq_true rfl) ⟨Nat.le_of_ble_eq_true rfl, Nat.le_of_ble_eq_true rfl⟩ dX2_readInnermost_88 ?_
            intro r6305 M6305 h
            refine j_goto X 101 (by decide) dX2_readInnermost_91 ?_
            exact j_iret X hr hlocks dX2_readInnermost_101 h
      replace h : wpb_X2_readInnermost (wp_X2_readLevel n0) (wp_X2_readInnermost n0) (wp_X2_readNot n0) (wp_X2_readBrackets n0) i1 M K := h
      delta wpb_X2_readInnermost at h
      refine j_lv (lv1 := [(0, .ref (ad 60)), (1, .int i1)]) [0, 1] rfl ?_
      refine j_aload_n X 0 rfl rfl dX2_readInnermost_0 ?_
      refine j_callVI X (nn := 0) (As := []) (st := []) (ci := 2) cl_60.1 (wE_2 _ cl_60.2) rfl aw_333 aw_334 (x_X2_next l D y ad  _ _ h) aw_332 aw_335 aw_24 (by decide +kernel) ⟨(by show _ + 1 ≤ _ + 1 + _; omega), (by show 8 + (_ + 11) + 60 * _ ≤ 60 * _; omega)⟩ rfl (Nat.le_of_ble_eq_true rfl) ⟨Nat.le_of_ble_eq_true rfl, Nat.le_of_ble_eq_true rfl⟩ dX2_readInnermost_1 ?_
      intro r1 M1 h
      refine j_istore_n X [(2, .int r1), (0, .ref (ad 60)), (1, .int i1)] rfl (by decide) rfl dX2_readInnermost_4 ?_
      refine j_iload_n X 0 rfl rfl dX2_readInnermost_5 ?_
      refine j_callSI X (nn := 1) (As := [.int r1]) (st := []) aw_349 (x_X2_isDigit l D y ad r1 _ _ h) aw_348 aw_350 aw_24 (by decide +kernel) ⟨(by show _ + 1 ≤ _ + 1 + _; omega), (by show 8 + (_ + 11) + 60 * _ ≤ 60 * _; omega)⟩ rfl (Nat.le_of_ble_eq_true rfl) ⟨Nat.le_of_ble_eq_true rfl, Nat.le_of_ble_eq_true rfl⟩ dX2_readInnermost_6 ?_
      intro r2 M2 h
      refine j_if_eq X 17 (by decide) dX2_readInnermost_9 (fun q_3 => ?_) (fun q_3 => ?_)
      · replace h := h.1 q_3
        refine j_aload_n X 1 rfl rfl dX2_readInnermost_17 ?_
        refine j_iload_n X 0 rfl rfl dX2_readInnermost_18 ?_
        refine j_callVI X (nn := 1) (As := [.int r1]) (st := []) (ci := 2) cl_60.1 (wE_2 _ cl_60.2) rfl aw_356 aw_357 (x_X2_nameOf l D y ad r1 _ _ h) aw_355 aw_358 aw_24 (by decide +kernel) ⟨(by show _ + 1 ≤ _ + 1 + _; omega), (by show 8 + (_ + 11) + 60 * _ ≤ 60 * _; omega)⟩ rfl (Nat.le_of_ble_eq_true rfl) ⟨Nat.le_of_ble_eq_true rfl, Nat.le_of_ble_eq_true rfl⟩ dX2_readInnermost_19 ?_
        intro r4 M4 h
        refine j_if_lt X 51 (by decide) dX2_readInnermost_22 (fun q_5 => ?_) (fun q_5 => ?_)
        · replace h := h.1 q_5
          refine j_iload_n X 0 rfl rfl dX2_readInnermost_51 ?_
          refine j_bipush X (v := 33) (by decide) dX2_readInnermost_52 ?_
          refine j_icmp_eq X 63 (by decide) dX2_readInnermost_54 (fun q_6 => ?_) (fun q_6 => ?_)
          · replace h := h.1 q_6
            refine j_lv (lv1 := [(0, .ref (ad 60)), (1, .int i1), (2, .int r1)]) [1, 2, 0] rfl ?_
            exact hb63 _ _  _ h
          · replace h := h.2 q_6
            refine j_iload_n X 0 rfl rfl dX2_readInnermost_57 ?_
            refine j_bipush X (v := 40) (by decide) dX2_readInnermost_58 ?_
            refine j_icmp_ne X 102 (by decide) dX2_readInnermost_60 (fun q_7 => ?_) (fun q_7 => ?_)
            · replace h := h.1 q_7
              refine j_aload_n X 1 rfl rfl dX2_readInnermost_102 ?_
              refine j_callVI X (nn := 0) (As := []) (st := []) (ci := 2) cl_60.1 (wE_2 _ cl_60.2) rfl aw_344 aw_345 (x_X2_stop l D y ad  _ _ h) aw_343 aw_346 aw_24 (by decide +kernel) ⟨(by show _ + 1 ≤ _ + 1 + _; omega), (by show 8 + (_ + 11) + 60 * _ ≤ 60 * _; omega)⟩ rfl (Nat.le_of_ble_eq_true rfl) ⟨Nat.le_of_ble_eq_true rfl, Nat.le_of_ble_eq_true rfl⟩ dX2_readInnermost_103 ?_
              intro r8 M8 h
              exact j_iret X hr hlocks dX2_readInnermost_106 h
            · replace h := h.2 q_7
              refine j_lv (lv1 := [(0, .ref (ad 60)), (1, .int i1), (2, .int r1)]) [1, 2, 0] rfl ?_
              exact hb63 _ _  _ h
        · replace h := h.2 q_5
          refine j_aload_n X 1 rfl rfl dX2_readInnermost_25 ?_
          refine j_dup X rfl dX2_readInnermost_26 ?_
          refine j_get X cl_60.1 (wE_2 _ cl_60.2) rfl awF2 3 (by decide) aw_323 rfl (v := .int (M4 60 3)) rfl dX2_readInnermost_27 ?_
          refine j_iconst X (v := 1) (by decide) dX2_readInnermost_30 ?_
          refine j_iadd X dX2_readInnermost_31 ?_
          refine j_put X (up M4 60 3 ((M4 60 3) + 1)) up_o cl_60.1 (wE_2 _ cl_60.2) rfl awF2 3 (by decide) (wP_2_3 _ _ cl_60.2) tyX2 tyX2_ok nmX2 rfl (ty := .int) (by decide +kernel) rfl rfl (Nat.le_of_ble_eq_true rfl) aw_323 rfl dX2_readInnermost_32 ?_
          refine j_aload_n X 1 rfl rfl dX2_readInnermost_35 ?_
          refine j_get X cl_60.1 (wE_2 _ cl_60.2) rfl awF2 0 (by decide) aw_78 rfl (v := .ref (ad 61)) rfl dX2_readInnermost_36 ?_
          refine j_bipush X (v := 110) (by decide) dX2_readInnermost_39 ?_
          refine j_aload_n X 1 rfl rfl dX2_readInnermost_41 ?_
          refine j_iload_n X 0 rfl rfl dX2_readInnermost_42 ?_
          refine j_callVI X (nn := 1) (As := [.int r1]) (st := [.int 110, .ref (ad 61)]) (ci := 2) cl_60.1 (wE_2 _ cl_60.2) rfl aw_356 aw_357 (x_X2_nameOf l D y ad r1 _ _ h) aw_355 aw_358 aw_24 (by decide +kernel) ⟨(by show _ + 1 ≤ _ + 1 + _; omega), (by show 8 + (_ + 11) + 60 * _ ≤ 60 * _; omega)⟩ rfl (Nat.le_of_ble_eq_true rfl) ⟨Nat.le_of_ble_eq_true rfl, Nat.le_of_ble_eq_true rfl⟩ dX2_readInnermost_43 ?_
          intro r9 M9 h
          refine j_iconst X (v := 0) (by decide) dX2_readInnermost_46 ?_
          refine j_callVNI X (nn := 3) (As := [.int 110, .int r9, .int 0]) (st := []) (ci := 4) cl_61.1 (wE_4 _ cl_61.2) rfl aw_339 aw_340 (x_X4_add l D y ad 61 110 r9 0 cl_61 _ _ h) (List.mem_of_getElem? (i := 23) rfl) aw_341 aw_41 (by decide +kernel) ⟨(by show _ + 1 ≤ _ + 1 + _; omega), (by show 8 + (_ + 11) + 60 * _ ≤ 60 * _; omega)⟩ rfl (Nat.le_of_ble_eq_true rfl) ⟨Nat.le_of_ble_eq_true rfl, Nat.le_of_ble_eq_true rfl⟩ dX2_readInnermost_47 ?_
          intro r10 M10 h
          exact j_iret X hr hlocks dX2_readInnermost_50 h
      · replace h := h.2 q_3
        refine j_aload_n X 1 rfl rfl dX2_readInnermost_12 ?_
        refine j_callVI X (nn := 0) (As := []) (st := []) (ci := 2) cl_60.1 (wE_2 _ cl_60.2) rfl aw_352 aw_353 (x_X2_readNumber l D y ad  _ _ h) aw_351 aw_354 aw_24 (by decide +kernel) ⟨(by show _ + 1 ≤ _ + 1 + _; omega), (by show 8 + (_ + 11) + 60 * _ ≤ 60 * _; omega)⟩ rfl (Nat.le_of_ble_eq_true rfl) ⟨Nat.le_of_ble_eq_true rfl, Nat.le_of_ble_eq_true rfl⟩ dX2_readInnermost_13 ?_
        intro r11 M11 h
        exact j_iret X hr hlocks dX2_readInnermost_16 h
    · intro i1 M K h
      refine MI_of (by decide) (Nat.le_of_ble_eq_true rfl) ?_
      intro p e s m args below meth c X hr hlocks
      replace h : wpb_X2_readNot (wp_X2_readLevel n0) (wp_X2_readInnermost n0) (wp_X2_readNot n0) (wp_X2_readBrackets n0) i1 M K := h
      delta wpb_X2_readNot at h
      refine j_lv (lv1 := [(0, .ref (ad 60)), (1, .int i1)]) [0, 1] rfl ?_
      refine j_aload_n X 0 rfl rfl dX2_readNot_0 ?_
      refine j_iload_n X 1 rfl rfl dX2_readNot_1 ?_
      refine j_callVI X (nn := 1) (As := [.int i1]) (st := []) (ci := 2) cl_60.1 (wE_2 _ cl_60.2) rfl aw_330 aw_331 (ih.2.1 i1 _ _ h) aw_329 aw_347 aw_24 (by decide +kernel) ⟨(by show _ + 1 ≤ _ + 1 + _; omega), (by show 8 + (_ + 11) + 60 * _ ≤ 60 * _; omega)⟩ rfl (Nat.le_of_ble_eq_true rfl) ⟨Nat.le_of_ble_eq_true rfl, Nat.le_of_ble_eq_true rfl⟩ dX2_readNot_2 ?_
      intro r1 M1 h
      refine j_istore_n X [(2, .int r1), (0, .ref (ad 60)), (1, .int i1)] rfl (by decide) rfl dX2_readNot_5 ?_
      refine j_aload_n X 1 rfl rfl dX2_readNot_6 ?_
      refine j_get X cl_60.1 (wE_2 _ cl_60.2) rfl awF2 0 (by decide) aw_78 rfl (v := .ref (ad 61)) rfl dX2_readNot_7 ?_
      refine j_bipush X (v := 33) (by decide) dX2_readNot_10 ?_
      refine j_iload_n X 0 rfl rfl dX2_readNot_12 ?_
      refine j_iload_n X 0 rfl rfl dX2_readNot_13 ?_
      refine j_callVNI X (nn := 3) (As := [.int 33, .int r1, .int r1]) (st := []) (ci := 4) cl_61.1 (wE_4 _ cl_61.2) rfl aw_339 aw_340 (x_X4_add l D y ad 61 33 r1 r1 cl_61 _ _ h) (List.mem_of_getElem? (i := 23) rfl) aw_341 aw_41 (by decide +kernel) ⟨(by show _ + 1 ≤ _ + 1 + _; omega), (by show 8 + (_ + 11) + 60 * _ ≤ 60 * _; omega)⟩ rfl (Nat.le_of_ble_eq_true rfl) ⟨Nat.le_of_ble_eq_true rfl, Nat.le_of_ble_eq_true rfl⟩ dX2_readNot_14 ?_
      intro r2 M2 h
      exact j_iret X hr hlocks dX2_readNot_17 h
    · intro i1 M K h
      refine MI_of (by decide) (Nat.le_of_ble_eq_true rfl) ?_
      intro p e s m args below meth c X hr hlocks
      replace h : wpb_X2_readBrackets (wp_X2_readLevel n0) (wp_X2_readInnermost n0) (wp_X2_readNot n0) (wp_X2_readBrackets n0) i1 M K := h
      delta wpb_X2_readBrackets at h
      refine j_lv (lv1 := [(0, .ref (ad 60)), (1, .int i1)]) [0, 1] rfl ?_
      refine j_aload_n X 0 rfl rfl dX2_readBrackets_0 ?_
      refine j_iconst X (v := 0) (by decide) dX2_readBrackets_1 ?_
      refine j_iload_n X 1 rfl rfl dX2_readBrackets_2 ?_
      refine j_callVI X (nn := 2) (As := [.int 0, .int i1]) (st := []) (ci := 2) cl_60.1 (wE_2 _ cl_60.2) rfl aw_326 aw_327 (ih.1 0 i1 _ _ h) aw_325 aw_328 aw_24 (by decide +kernel) ⟨(by show _ + 1 ≤ _ + 1 + _; omega), (by show 8 + (_ + 11) + 60 * _ ≤ 60 * _; omega)⟩ rfl (Nat.le_of_ble_eq_true rfl) ⟨Nat.le_of_ble_eq_true rfl, Nat.le_of_ble_eq_true rfl⟩ dX2_readBrackets_3 ?_
      intro r1 M1 h
      refine j_istore_n X [(2, .int r1), (0, .ref (ad 60)), (1, .int i1)] rfl (by decide) rfl dX2_readBrackets_6 ?_
      refine j_aload_n X 1 rfl rfl dX2_readBrackets_7 ?_
      refine j_get X cl_60.1 (wE_2 _ cl_60.2) rfl awF2 4 (by decide) aw_324 rfl (v := .int (M1 60 4)) rfl dX2_readBrackets_8 ?_
      refine j_if_ge X 23 (by decide) dX2_readBrackets_11 (fun q_2 => ?_) (fun q_2 => ?_)
      · replace h := h.1 q_2
        refine j_aload_n X 1 rfl rfl dX2_readBrackets_23 ?_
        refine j_callVI X (nn := 0) (As := []) (st := []) (ci := 2) cl_60.1 (wE_2 _ cl_60.2) rfl aw_344 aw_345 (x_X2_stop l D y ad  _ _ h) aw_343 aw_346 aw_24 (by decide +kernel) ⟨(by show _ + 1 ≤ _ + 1 + _; omega), (by show 8 + (_ + 11) + 60 * _ ≤ 60 * _; omega)⟩ rfl (Nat.le_of_ble_eq_true rfl) ⟨Nat.le_of_ble_eq_true rfl, Nat.le_of_ble_eq_true rfl⟩ dX2_readBrackets_24 ?_
        intro r3 M3 h
        exact j_iret X hr hlocks dX2_readBrackets_27 h
      · replace h := h.2 q_2
        refine j_aload_n X 1 rfl rfl dX2_readBrackets_14 ?_
        refine j_callVI X (nn := 0) (As := []) (st := []) (ci := 2) cl_60.1 (wE_2 _ cl_60.2) rfl aw_333 aw_334 (x_X2_next l D y ad  _ _ h) aw_332 aw_335 aw_24 (by decide +kernel) ⟨(by show _ + 1 ≤ _ + 1 + _; omega), (by show 8 + (_ + 11) + 60 * _ ≤ 60 * _; omega)⟩ rfl (Nat.le_of_ble_eq_true rfl) ⟨Nat.le_of_ble_eq_true rfl, Nat.le_of_ble_eq_true rfl⟩ dX2_readBrackets_15 ?_
        intro r4 M4 h
        refine j_bipush X (v := 41) (by decide) dX2_readBrackets_18 ?_
        refine j_icmp_eq X 28 (by decide) dX2_readBrackets_20 (fun q_5 => ?_) (fun q_5 => ?_)
        · replace h := h.1 q_5
          refine j_aload_n X 1 rfl rfl dX2_readBrackets_28 ?_
          refine j_dup X rfl dX2_readBrackets_29 ?_
          refine j_get X cl_60.1 (wE_2 _ cl_60.2) rfl awF2 3 (by decide) aw_323 rfl (v := .int (M4 60 3)) rfl dX2_readBrackets_30 ?_
          refine j_iconst X (v := 1) (by decide) dX2_readBrackets_33 ?_
          refine j_iadd X dX2_readBrackets_34 ?_
          refine j_put X (up M4 60 3 ((M4 60 3) + 1)) up_o cl_60.1 (wE_2 _ cl_60.2) rfl awF2 3 (by decide) (wP_2_3 _ _ cl_60.2) tyX2 tyX2_ok nmX2 rfl (ty := .int) (by decide +kernel) rfl rfl (Nat.le_of_ble_eq_true rfl) aw_323 rfl dX2_readBrackets_35 ?_
          refine j_iload_n X 0 rfl rfl dX2_readBrackets_38 ?_
          exact j_iret X hr hlocks dX2_readBrackets_39 h
        · replace h := h.2 q_5
          refine j_aload_n X 1 rfl rfl dX2_readBrackets_23 ?_
          refine j_callVI X (nn := 0) (As := []) (st := []) (ci := 2) cl_60.1 (wE_2 _ cl_60.2) rfl aw_344 aw_345 (x_X2_stop l D y ad  _ _ h) aw_343 aw_346 aw_24 (by decide +kernel) ⟨(by show _ + 1 ≤ _ + 1 + _; omega), (by show 8 + (_ + 11) + 60 * _ ≤ 60 * _; omega)⟩ rfl (Nat.le_of_ble_eq_true rfl) ⟨Nat.le_of_ble_eq_true rfl, Nat.le_of_ble_eq_true rfl⟩ dX2_readBrackets_24 ?_
          intro r6 M6 h
          exact j_iret X hr hlocks dX2_readBrackets_27 h
theorem x_X2_readLevel (l : Launch) (D : va_G) (y : wY) (ad : Nat → Nat) (n : Nat) (i1 : Int32) (i2 : Int32) (M : Mem) (K : Int32 → Mem → Prop) (h : wp_X2_readLevel n i1 i2 M K) : MI l D y ad yX2_readLevel (Cond.code yX2_readLevel cX2_readLevel 8 (some .int)) (n + 3) M [.ref (ad 60), .int i1, .int i2] K := (xg_X2_readLevel l D y ad n).1 i1 i2 M K h
theorem x_X2_readInnermost (l : Launch) (D : va_G) (y : wY) (ad : Nat → Nat) (n : Nat) (i1 : Int32) (M : Mem) (K : Int32 → Mem → Prop) (h : wp_X2_readInnermost n i1 M K) : MI l D y ad yX2_readInnermost (Cond.code yX2_readInnermost cX2_readInnermost 3 (some .int)) (n + 3) M [.ref (ad 60), .int i1] K := (xg_X2_readLevel l D y ad n).2.1 i1 M K h
theorem x_X2_readNot (l : Launch) (D : va_G) (y : wY) (ad : Nat → Nat) (n : Nat) (i1 : Int32) (M : Mem) (K : Int32 → Mem → Prop) (h : wp_X2_readNot n i1 M K) : MI l D y ad yX2_readNot (Cond.code yX2_readNot cX2_readNot 3 (some .int)) (n + 3) M [.ref (ad 60), .int i1] K := (xg_X2_readLevel l D y ad n).2.2.1 i1 M K h
theorem x_X2_readBrackets (l : Launch) (D : va_G) (y : wY) (ad : Nat → Nat) (n : Nat) (i1 : Int32) (M : Mem) (K : Int32 → Mem → Prop) (h : wp_X2_readBrackets n i1 M K) : MI l D y ad yX2_readBrackets (Cond.code yX2_readBrackets cX2_readBrackets 3 (some .int)) (n + 3) M [.ref (ad 60), .int i1] K := (xg_X2_readLevel l D y ad n).2.2.2 i1 M K h
theorem dX4_clear_0 : decode cX4_clear 0 = .ok (.aload_n 0, 1) := dk_42 (by decide +kernel)
theorem dX4_clear_1 : decode cX4_clear 1 = .ok (.iload_n 1, 1) := dk_27 (by decide +kernel)
theorem dX4_clear_2 : decode cX4_clear 2 = .ok (.putfield 24, 3) := dk_181 (by decide +kernel)
theorem dX4_clear_5 : decode cX4_clear 5 = .ok (.aload_n 0, 1) := dk_42 (by decide +kernel)
theorem dX4_clear_6 : decode cX4_clear 6 = .ok (.iconst 0, 1) := dk_3 (by decide +kernel)
theorem dX4_clear_7 : decode cX4_clear 7 = .ok (.putfield 28, 3) := dk_181 (by decide +kernel)
theorem dX4_clear_10 : decode cX4_clear 10 = .ok (.return_, 1) := dk_177 (by decide +kernel)
set_option maxRecDepth 100000 in
set_option maxHeartbeats 8000000 in
theorem x_X4_clear (l : Launch) (D : va_G) (y : wY) (ad : Nat → Nat) (x0 : Nat) (i1 : Int32) (hx0 : Cl x0 4) (M : Mem) (K : Mem → Prop) (h : wp_X4_clear x0 i1 M K) : MV l D y ad yX4_clear (Cond.code yX4_clear cX4_clear 2 none) 0 M [.ref (ad x0), .int i1] K := by
  refine MV_of (by decide) (Nat.le_of_ble_eq_true rfl) ?_
  intro p e s m args below meth c X hr hlocks
  delta wp_X4_clear at h
  refine j_lv (lv1 := [(0, .ref (ad x0)), (1, .int i1)]) [0, 1] rfl ?_
  refine j_aload_n X 0 rfl rfl dX4_clear_0 ?_
  refine j_iload_n X 1 rfl rfl dX4_clear_1 ?_
  refine j_put X (up M x0 4 i1) up_o hx0.1 (wE_4 _ hx0.2) rfl awF4 4 (by decide) (wP_4_4 _ _ hx0.2) tyX4 tyX4_ok nmX4 rfl (ty := .int) (by decide +kernel) rfl rfl (Nat.le_of_ble_eq_true rfl) aw_72 rfl dX4_clear_2 ?_
  refine j_aload_n X 0 rfl rfl dX4_clear_5 ?_
  refine j_iconst X (v := 0) (by decide) dX4_clear_6 ?_
  refine j_put X (up (up M x0 4 i1) x0 5 0) up_o hx0.1 (wE_4 _ hx0.2) rfl awF4 5 (by decide) (wP_4_5 _ _ hx0.2) tyX4 tyX4_ok nmX4 rfl (ty := .int) (by decide +kernel) rfl rfl (Nat.le_of_ble_eq_true rfl) aw_73 rfl dX4_clear_7 ?_
  exact j_vret X hr hlocks dX4_clear_10 h
theorem dX2_read_0 : decode cX2_read 0 = .ok (.aload_n 0, 1) := dk_42 (by decide +kernel)
theorem dX2_read_1 : decode cX2_read 1 = .ok (.iload_n 2, 1) := dk_28 (by decide +kernel)
theorem dX2_read_2 : decode cX2_read 2 = .ok (.bipush 50, 2) := dk_16 (by decide +kernel)
theorem dX2_read_4 : decode cX2_read 4 = .ok (.invokestatic 22, 3) := dk_184 (by decide +kernel)
theorem dX2_read_7 : decode cX2_read 7 = .ok (.putfield 28, 3) := dk_181 (by decide +kernel)
theorem dX2_read_10 : decode cX2_read 10 = .ok (.aload_n 1, 1) := dk_43 (by decide +kernel)
theorem dX2_read_11 : decode cX2_read 11 = .ok (.iconst 0, 1) := dk_3 (by decide +kernel)
theorem dX2_read_12 : decode cX2_read 12 = .ok (.aload_n 0, 1) := dk_42 (by decide +kernel)
theorem dX2_read_13 : decode cX2_read 13 = .ok (.getfield 18, 3) := dk_180 (by decide +kernel)
theorem dX2_read_16 : decode cX2_read 16 = .ok (.iconst 0, 1) := dk_3 (by decide +kernel)
theorem dX2_read_17 : decode cX2_read 17 = .ok (.aload_n 0, 1) := dk_42 (by decide +kernel)
theorem dX2_read_18 : decode cX2_read 18 = .ok (.getfield 28, 3) := dk_180 (by decide +kernel)
theorem dX2_read_21 : decode cX2_read 21 = .ok (.invokestatic 32, 3) := dk_184 (by decide +kernel)
theorem dX2_read_24 : decode cX2_read 24 = .ok (.aload_n 0, 1) := dk_42 (by decide +kernel)
theorem dX2_read_25 : decode cX2_read 25 = .ok (.iconst 0, 1) := dk_3 (by decide +kernel)
theorem dX2_read_26 : decode cX2_read 26 = .ok (.putfield 38, 3) := dk_181 (by decide +kernel)
theorem dX2_read_29 : decode cX2_read 29 = .ok (.aload_n 0, 1) := dk_42 (by decide +kernel)
theorem dX2_read_30 : decode cX2_read 30 = .ok (.iconst (-1), 1) := dk_2 (by decide +kernel)
theorem dX2_read_31 : decode cX2_read 31 = .ok (.putfield 41, 3) := dk_181 (by decide +kernel)
theorem dX2_read_34 : decode cX2_read 34 = .ok (.aload_n 0, 1) := dk_42 (by decide +kernel)
theorem dX2_read_35 : decode cX2_read 35 = .ok (.getfield 12, 3) := dk_180 (by decide +kernel)
theorem dX2_read_38 : decode cX2_read 38 = .ok (.iload_n 3, 1) := dk_29 (by decide +kernel)
theorem dX2_read_39 : decode cX2_read 39 = .ok (.invokevirtual 44, 3) := dk_182 (by decide +kernel)
theorem dX2_read_42 : decode cX2_read 42 = .ok (.aload_n 0, 1) := dk_42 (by decide +kernel)
theorem dX2_read_43 : decode cX2_read 43 = .ok (.iconst 0, 1) := dk_3 (by decide +kernel)
theorem dX2_read_44 : decode cX2_read 44 = .ok (.iconst 0, 1) := dk_3 (by decide +kernel)
theorem dX2_read_45 : decode cX2_read 45 = .ok (.invokevirtual 48, 3) := dk_182 (by decide +kernel)
theorem dX2_read_48 : decode cX2_read 48 = .ok (.pop, 1) := dk_87 (by decide +kernel)
theorem dX2_read_49 : decode cX2_read 49 = .ok (.aload_n 0, 1) := dk_42 (by decide +kernel)
theorem dX2_read_50 : decode cX2_read 50 = .ok (.getfield 41, 3) := dk_180 (by decide +kernel)
theorem dX2_read_53 : decode cX2_read 53 = .ok (.ifCond .ge 22, 3) := dk_156 (by decide +kernel)
theorem dX2_read_75 : decode cX2_read 75 = .ok (.aload_n 0, 1) := dk_42 (by decide +kernel)
theorem dX2_read_76 : decode cX2_read 76 = .ok (.getfield 41, 3) := dk_180 (by decide +kernel)
theorem dX2_read_79 : decode cX2_read 79 = .ok (.ireturn, 1) := dk_172 (by decide +kernel)
theorem dX2_read_56 : decode cX2_read 56 = .ok (.aload_n 0, 1) := dk_42 (by decide +kernel)
theorem dX2_read_57 : decode cX2_read 57 = .ok (.getfield 38, 3) := dk_180 (by decide +kernel)
theorem dX2_read_60 : decode cX2_read 60 = .ok (.aload_n 0, 1) := dk_42 (by decide +kernel)
theorem dX2_read_61 : decode cX2_read 61 = .ok (.getfield 28, 3) := dk_180 (by decide +kernel)
theorem dX2_read_64 : decode cX2_read 64 = .ok (.if_icmp .ge 11, 3) := dk_162 (by decide +kernel)
theorem dX2_read_67 : decode cX2_read 67 = .ok (.aload_n 0, 1) := dk_42 (by decide +kernel)
theorem dX2_read_68 : decode cX2_read 68 = .ok (.aload_n 0, 1) := dk_42 (by decide +kernel)
theorem dX2_read_69 : decode cX2_read 69 = .ok (.getfield 38, 3) := dk_180 (by decide +kernel)
theorem dX2_read_72 : decode cX2_read 72 = .ok (.putfield 41, 3) := dk_181 (by decide +kernel)
set_option maxRecDepth 100000 in
set_option maxHeartbeats 8000000 in
theorem x_X2_read (l : Launch) (D : va_G) (y : wY) (ad : Nat → Nat) (x1 : Nat) (i2 : Int32) (i3 : Int32) (hx1 : Cl x1 9) (M : Mem) (K : Int32 → Mem → Prop) (h : wp_X2_read x1 i2 i3 M K) : MI l D y ad yX2_read (Cond.code yX2_read cX2_read 4 (some .int)) 68 M [.ref (ad 60), .ref (ad x1), .int i2, .int i3] K := by
  refine MI_of (by decide) (Nat.le_of_ble_eq_true rfl) ?_
  intro p e s m args below meth c X hr hlocks
  delta wp_X2_read at h
  refine j_lv (lv1 := [(0, .ref (ad 60)), (1, .ref (ad x1)), (2, .int i2), (3, .int i3)]) [0, 1, 2, 3] rfl ?_
  refine j_aload_n X 0 rfl rfl dX2_read_0 ?_
  refine j_iload_n X 2 rfl rfl dX2_read_1 ?_
  refine j_bipush X (v := 50) (by decide) dX2_read_2 ?_
  refine j_mmin X aw_317 aw_202 aw_203 aw_204 (Nat.le_of_ble_eq_true rfl) (Nat.le_of_ble_eq_true rfl) (by decide) (by decide) dX2_read_4 ?_
  refine j_put X (up M 60 2 (if 50 < i2 then 50 else i2)) up_o cl_60.1 (wE_2 _ cl_60.2) rfl awF2 2 (by decide) (wP_2_2 _ _ cl_60.2) tyX2 tyX2_ok nmX2 rfl (ty := .int) (by decide +kernel) rfl rfl (Nat.le_of_ble_eq_true rfl) aw_318 rfl dX2_read_7 ?_
  refine j_aload_n X 1 rfl rfl dX2_read_10 ?_
  refine j_iconst X (v := 0) (by decide) dX2_read_11 ?_
  refine j_aload_n X 0 rfl rfl dX2_read_12 ?_
  refine j_get X cl_60.1 (wE_2 _ cl_60.2) rfl awF2 1 (by decide) aw_79 rfl (v := .ref (ad 66)) rfl dX2_read_13 ?_
  refine j_iconst X (v := 0) (by decide) dX2_read_16 ?_
  refine j_aload_n X 0 rfl rfl dX2_read_17 ?_
  refine j_get X cl_60.1 (wE_2 _ cl_60.2) rfl awF2 2 (by decide) aw_318 rfl (v := .int ((up M 60 2 (if 50 < i2 then 50 else i2)) 60 2)) rfl dX2_read_18 ?_
  obtain ⟨g_1, h⟩ := h
  obtain ⟨g_2, h⟩ := h
  obtain ⟨g_3, h⟩ := h
  obtain ⟨g_4, h⟩ := h
  obtain ⟨g_5, h⟩ := h
  refine j_copy X (i := x1) (j := 66) aw_319 aw_320 aw_321 aw_322 hx1.1 cl_66.1 hx1.2 cl_66.2 g_1 g_2 g_3 g_4 g_5 (Nat.le_of_ble_eq_true rfl) (Nat.le_of_ble_eq_true rfl) dX2_read_21 ?_
  refine j_topM (fun Mg_6 eMg_6 => ?_)
  replace h := h Mg_6 eMg_6
  refine j_aload_n X 0 rfl rfl dX2_read_24 ?_
  refine j_iconst X (v := 0) (by decide) dX2_read_25 ?_
  refine j_put X (up Mg_6 60 3 0) up_o cl_60.1 (wE_2 _ cl_60.2) rfl awF2 3 (by decide) (wP_2_3 _ _ cl_60.2) tyX2 tyX2_ok nmX2 rfl (ty := .int) (by decide +kernel) rfl rfl (Nat.le_of_ble_eq_true rfl) aw_323 rfl dX2_read_26 ?_
  refine j_aload_n X 0 rfl rfl dX2_read_29 ?_
  refine j_iconst X (v := (-1)) (by decide) dX2_read_30 ?_
  refine j_put X (up (up Mg_6 60 3 0) 60 4 (-1)) up_o cl_60.1 (wE_2 _ cl_60.2) rfl awF2 4 (by decide) (wP_2_4 _ _ cl_60.2) tyX2 tyX2_ok nmX2 rfl (ty := .int) (by decide +kernel) rfl rfl (Nat.le_of_ble_eq_true rfl) aw_324 rfl dX2_read_31 ?_
  refine j_aload_n X 0 rfl rfl dX2_read_34 ?_
  refine j_get X cl_60.1 (wE_2 _ cl_60.2) rfl awF2 0 (by decide) aw_78 rfl (v := .ref (ad 61)) rfl dX2_read_35 ?_
  refine j_iload_n X 3 rfl rfl dX2_read_38 ?_
  refine j_callVNV X (nn := 1) (As := [.int i3]) (st := []) (ci := 4) cl_61.1 (wE_4 _ cl_61.2) rfl aw_69 aw_70 (x_X4_clear l D y ad 61 i3 cl_61 _ _ h) (List.mem_of_getElem? (i := 21) rfl) aw_71 aw_41 (by decide +kernel) ⟨Nat.le_of_ble_eq_true rfl, Nat.le_of_ble_eq_true rfl⟩ rfl (Nat.le_of_ble_eq_true rfl) ⟨Nat.le_of_ble_eq_true rfl, Nat.le_of_ble_eq_true rfl⟩ dX2_read_39 ?_
  intro M7 h
  refine j_aload_n X 0 rfl rfl dX2_read_42 ?_
  refine j_iconst X (v := 0) (by decide) dX2_read_43 ?_
  refine j_iconst X (v := 0) (by decide) dX2_read_44 ?_
  refine j_callVI X (nn := 2) (As := [.int 0, .int 0]) (st := []) (ci := 2) cl_60.1 (wE_2 _ cl_60.2) rfl aw_326 aw_327 (x_X2_readLevel l D y ad 64 0 0 _ _ h) aw_325 aw_328 aw_24 (by decide +kernel) ⟨Nat.le_of_ble_eq_true rfl, Nat.le_of_ble_eq_true rfl⟩ rfl (Nat.le_of_ble_eq_true rfl) ⟨Nat.le_of_ble_eq_true rfl, Nat.le_of_ble_eq_true rfl⟩ dX2_read_45 ?_
  intro r8 M8 h
  refine j_pop X rfl dX2_read_48 ?_
  refine j_aload_n X 0 rfl rfl dX2_read_49 ?_
  refine j_get X cl_60.1 (wE_2 _ cl_60.2) rfl awF2 4 (by decide) aw_324 rfl (v := .int (M8 60 4)) rfl dX2_read_50 ?_
  refine j_if_ge X 75 (by decide) dX2_read_53 (fun q_9 => ?_) (fun q_9 => ?_)
  · replace h := h.1 q_9
    refine j_aload_n X 0 rfl rfl dX2_read_75 ?_
    refine j_get X cl_60.1 (wE_2 _ cl_60.2) rfl awF2 4 (by decide) aw_324 rfl (v := .int (M8 60 4)) rfl dX2_read_76 ?_
    exact j_iret X hr hlocks dX2_read_79 h
  · replace h := h.2 q_9
    refine j_aload_n X 0 rfl rfl dX2_read_56 ?_
    refine j_get X cl_60.1 (wE_2 _ cl_60.2) rfl awF2 3 (by decide) aw_323 rfl (v := .int (M8 60 3)) rfl dX2_read_57 ?_
    refine j_aload_n X 0 rfl rfl dX2_read_60 ?_
    refine j_get X cl_60.1 (wE_2 _ cl_60.2) rfl awF2 2 (by decide) aw_318 rfl (v := .int (M8 60 2)) rfl dX2_read_61 ?_
    refine j_icmp_ge X 75 (by decide) dX2_read_64 (fun q_10 => ?_) (fun q_10 => ?_)
    · replace h := h.1 q_10
      refine j_aload_n X 0 rfl rfl dX2_read_75 ?_
      refine j_get X cl_60.1 (wE_2 _ cl_60.2) rfl awF2 4 (by decide) aw_324 rfl (v := .int (M8 60 4)) rfl dX2_read_76 ?_
      exact j_iret X hr hlocks dX2_read_79 h
    · replace h := h.2 q_10
      refine j_aload_n X 0 rfl rfl dX2_read_67 ?_
      refine j_aload_n X 0 rfl rfl dX2_read_68 ?_
      refine j_get X cl_60.1 (wE_2 _ cl_60.2) rfl awF2 3 (by decide) aw_323 rfl (v := .int (M8 60 3)) rfl dX2_read_69 ?_
      refine j_put X (up M8 60 4 (M8 60 3)) up_o cl_60.1 (wE_2 _ cl_60.2) rfl awF2 4 (by decide) (wP_2_4 _ _ cl_60.2) tyX2 tyX2_ok nmX2 rfl (ty := .int) (by decide +kernel) rfl rfl (Nat.le_of_ble_eq_true rfl) aw_324 rfl dX2_read_72 ?_
      refine j_aload_n X 0 rfl rfl dX2_read_75 ?_
      refine j_get X cl_60.1 (wE_2 _ cl_60.2) rfl awF2 4 (by decide) aw_324 rfl (v := .int ((up M8 60 4 (M8 60 3)) 60 4)) rfl dX2_read_76 ?_
      exact j_iret X hr hlocks dX2_read_79 h
theorem dX3_isMissing_0 : decode cX3_isMissing 0 = .ok (.aload_n 0, 1) := dk_42 (by decide +kernel)
theorem dX3_isMissing_1 : decode cX3_isMissing 1 = .ok (.getfield 15, 3) := dk_180 (by decide +kernel)
theorem dX3_isMissing_4 : decode cX3_isMissing 4 = .ok (.ifCond .ne 7, 3) := dk_154 (by decide +kernel)
theorem dX3_isMissing_11 : decode cX3_isMissing 11 = .ok (.iconst 0, 1) := dk_3 (by decide +kernel)
theorem dX3_isMissing_12 : decode cX3_isMissing 12 = .ok (.ireturn, 1) := dk_172 (by decide +kernel)
theorem dX3_isMissing_7 : decode cX3_isMissing 7 = .ok (.iconst 1, 1) := dk_4 (by decide +kernel)
theorem dX3_isMissing_8 : decode cX3_isMissing 8 = .ok (.goto 4, 3) := dk_167 (by decide +kernel)
set_option maxRecDepth 100000 in
set_option maxHeartbeats 8000000 in
theorem x_X3_isMissing (l : Launch) (D : va_G) (y : wY) (ad : Nat → Nat) (x0 : Nat) (hx0 : Cl x0 3) (M : Mem) (K : Int32 → Mem → Prop) (h : wp_X3_isMissing x0 M K) : MI l D y ad yX3_isMissing (Cond.code yX3_isMissing cX3_isMissing 1 (some .boolean)) 0 M [.ref (ad x0)] K := by
  refine MI_of (by decide) (Nat.le_of_ble_eq_true rfl) ?_
  intro p e s m args below meth c X hr hlocks
  delta wp_X3_isMissing at h
  refine j_lv (lv1 := [(0, .ref (ad x0))]) [0] rfl ?_
  refine j_aload_n X 0 rfl rfl dX3_isMissing_0 ?_
  refine j_get X hx0.1 (wE_3 _ hx0.2) rfl awF3 1 (by decide) aw_644 rfl (v := .int (M x0 1)) rfl dX3_isMissing_1 ?_
  refine j_if_ne X 11 (by decide) dX3_isMissing_4 (fun q_1 => ?_) (fun q_1 => ?_)
  · replace h := h.1 q_1
    refine j_iconst X (v := 0) (by decide) dX3_isMissing_11 ?_
    exact j_zret X hr hlocks (Or.inl rfl) dX3_isMissing_12 h
  · replace h := h.2 q_1
    refine j_iconst X (v := 1) (by decide) dX3_isMissing_7 ?_
    refine j_goto X 12 (by decide) dX3_isMissing_8 ?_
    exact j_zret X hr hlocks (Or.inr rfl) dX3_isMissing_12 h
theorem dX3_lay_12 : decode cX3_lay 12 = .ok (.iload_n 3, 1) := dk_29 (by decide +kernel)
theorem dX3_lay_13 : decode cX3_lay 13 = .ok (.bipush 40, 2) := dk_16 (by decide +kernel)
theorem dX3_lay_15 : decode cX3_lay 15 = .ok (.if_icmp .ge 16, 3) := dk_162 (by decide +kernel)
theorem dX3_lay_31 : decode cX3_lay 31 = .ok (.return_, 1) := dk_177 (by decide +kernel)
theorem dX3_lay_18 : decode cX3_lay 18 = .ok (.aload_n 0, 1) := dk_42 (by decide +kernel)
theorem dX3_lay_19 : decode cX3_lay 19 = .ok (.getfield 9, 3) := dk_180 (by decide +kernel)
theorem dX3_lay_22 : decode cX3_lay 22 = .ok (.iload_n 3, 1) := dk_29 (by decide +kernel)
theorem dX3_lay_23 : decode cX3_lay 23 = .ok (.iconst 0, 1) := dk_3 (by decide +kernel)
theorem dX3_lay_24 : decode cX3_lay 24 = .ok (.iastore, 1) := dk_79 (by decide +kernel)
theorem dX3_lay_25 : decode cX3_lay 25 = .ok (.iinc 3 1, 3) := dk_132 (by decide +kernel)
theorem dX3_lay_28 : decode cX3_lay 28 = .ok (.goto (-16), 3) := dk_167 (by decide +kernel)
theorem dX3_lay_0 : decode cX3_lay 0 = .ok (.aload_n 0, 1) := dk_42 (by decide +kernel)
theorem dX3_lay_1 : decode cX3_lay 1 = .ok (.iload_n 1, 1) := dk_27 (by decide +kernel)
theorem dX3_lay_2 : decode cX3_lay 2 = .ok (.putfield 15, 3) := dk_181 (by decide +kernel)
theorem dX3_lay_5 : decode cX3_lay 5 = .ok (.aload_n 0, 1) := dk_42 (by decide +kernel)
theorem dX3_lay_6 : decode cX3_lay 6 = .ok (.iload_n 2, 1) := dk_28 (by decide +kernel)
theorem dX3_lay_7 : decode cX3_lay 7 = .ok (.putfield 19, 3) := dk_181 (by decide +kernel)
theorem dX3_lay_10 : decode cX3_lay 10 = .ok (.iconst 0, 1) := dk_3 (by decide +kernel)
theorem dX3_lay_11 : decode cX3_lay 11 = .ok (.istore_n 3, 1) := dk_62 (by decide +kernel)
set_option maxRecDepth 100000 in
set_option maxHeartbeats 8000000 in
theorem x_X3_lay (l : Launch) (D : va_G) (y : wY) (ad : Nat → Nat) (x0 : Nat) (i1 : Int32) (i2 : Int32) (hx0 : Cl x0 3) (M : Mem) (K : Mem → Prop) (h : wp_X3_lay x0 i1 i2 M K) : MV l D y ad yX3_lay (Cond.code yX3_lay cX3_lay 4 none) 0 M [.ref (ad x0), .int i1, .int i2] K := by
  refine MV_of (by decide) (Nat.le_of_ble_eq_true rfl) ?_
  intro p e s m args below meth c X hr hlocks
  have hL12 : ∀ (x0 : Nat) (hx0 : Cl x0 3) (n : Nat) (i3 : Int32) (Mb : Mem), wp_X3_lay_L12 K x0 n i3 Mb → J p l e (rmN 0) s m args below meth c 0 0 (QV K D y ad M s args below) D y ad (va_A (PL y ad M) s.heap.size) 4 Mb 12 [(0, .ref (ad x0)), (3, .int i3)] [] := by
    intro x0 hx0 n
    induction n with
    | zero => intro i3 Mb h; exact False.elim h
    | succ n hB12 =>
      intro i3 Mb h
      replace h : wp_X3_lay_l12 K x0 (wp_X3_lay_L12 K x0 n) i3 Mb := h
      delta wp_X3_lay_l12 at h
      refine j_iload_n X 1 rfl rfl dX3_lay_12 ?_
      refine j_bipush X (v := 40) (by decide) dX3_lay_13 ?_
      refine j_icmp_ge X 31 (by decide) dX3_lay_15 (fun q_1201 => ?_) (fun q_1201 => ?_)
      · replace h := h.1 q_1201
        exact j_vret X hr hlocks dX3_lay_31 h
      · replace h := h.2 q_1201
        refine j_aload_n X 0 rfl rfl dX3_lay_18 ?_
        refine j_get X hx0.1 (wE_3 _ hx0.2) rfl awF3 0 (by decide) aw_87 rfl (v := .ref (ad (rf x0 0))) rfl dX3_lay_19 ?_
        have hk_1202 := kf_3_0 hx0
        refine j_iload_n X 1 rfl rfl dX3_lay_22 ?_
        refine j_iconst X (v := 0) (by decide) dX3_lay_23 ?_
        obtain ⟨hi_1203, h⟩ := h
        refine j_iast X hk_1202.1 hk_1202.2 hi_1203 dX3_lay_24 ?_
        refine j_iinc X (v := (i3 + 1)) 1 [(3, .int (i3 + 1)), (0, .ref (ad x0))] rfl rfl (by decide) rfl dX3_lay_25 ?_
        refine j_goto X 12 (by decide) dX3_lay_28 ?_
        refine j_lv (lv1 := [(0, .ref (ad x0)), (3, .int (i3 + 1))]) [1, 0] rfl ?_
        exact hB12 _ _ h
  delta wp_X3_lay at h
  refine j_lv (lv1 := [(0, .ref (ad x0)), (1, .int i1), (2, .int i2)]) [0, 1, 2] rfl ?_
  refine j_aload_n X 0 rfl rfl dX3_lay_0 ?_
  refine j_iload_n X 1 rfl rfl dX3_lay_1 ?_
  refine j_put X (up M x0 1 i1) up_o hx0.1 (wE_3 _ hx0.2) rfl awF3 1 (by decide) (wP_3_1 _ _ hx0.2) tyX3 tyX3_ok nmX3 rfl (ty := .int) (by decide +kernel) rfl rfl (Nat.le_of_ble_eq_true rfl) aw_644 rfl dX3_lay_2 ?_
  refine j_aload_n X 0 rfl rfl dX3_lay_5 ?_
  refine j_iload_n X 2 rfl rfl dX3_lay_6 ?_
  refine j_put X (up (up M x0 1 i1) x0 2 i2) up_o hx0.1 (wE_3 _ hx0.2) rfl awF3 2 (by decide) (wP_3_2 _ _ hx0.2) tyX3 tyX3_ok nmX3 rfl (ty := .int) (by decide +kernel) rfl rfl (Nat.le_of_ble_eq_true rfl) aw_815 rfl dX3_lay_7 ?_
  refine j_iconst X (v := 0) (by decide) dX3_lay_10 ?_
  refine j_istore_n X [(3, .int 0), (0, .ref (ad x0)), (1, .int i1), (2, .int i2)] rfl (by decide) rfl dX3_lay_11 ?_
  refine j_lv (lv1 := [(0, .ref (ad x0)), (3, .int 0)]) [1, 0] rfl ?_
  obtain ⟨n12, h⟩ := h
  exact hL12 _ hx0  n12 _ _ h
