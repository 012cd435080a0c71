theorem dX1_copyFrom_0 : decode cX1_copyFrom 0 = .ok (.aload_n 0, 1) := dk_42 (by decide +kernel)
theorem dX1_copyFrom_1 : decode cX1_copyFrom 1 = .ok (.aload_n 1, 1) := dk_43 (by decide +kernel)
theorem dX1_copyFrom_2 : decode cX1_copyFrom 2 = .ok (.getfield 9, 3) := dk_180 (by decide +kernel)
theorem dX1_copyFrom_5 : decode cX1_copyFrom 5 = .ok (.putfield 9, 3) := dk_181 (by decide +kernel)
theorem dX1_copyFrom_8 : decode cX1_copyFrom 8 = .ok (.aload_n 0, 1) := dk_42 (by decide +kernel)
theorem dX1_copyFrom_9 : decode cX1_copyFrom 9 = .ok (.aload_n 1, 1) := dk_43 (by decide +kernel)
theorem dX1_copyFrom_10 : decode cX1_copyFrom 10 = .ok (.getfield 15, 3) := dk_180 (by decide +kernel)
theorem dX1_copyFrom_13 : decode cX1_copyFrom 13 = .ok (.putfield 15, 3) := dk_181 (by decide +kernel)
theorem dX1_copyFrom_16 : decode cX1_copyFrom 16 = .ok (.aload_n 0, 1) := dk_42 (by decide +kernel)
theorem dX1_copyFrom_17 : decode cX1_copyFrom 17 = .ok (.aload_n 1, 1) := dk_43 (by decide +kernel)
theorem dX1_copyFrom_18 : decode cX1_copyFrom 18 = .ok (.getfield 18, 3) := dk_180 (by decide +kernel)
theorem dX1_copyFrom_21 : decode cX1_copyFrom 21 = .ok (.putfield 18, 3) := dk_181 (by decide +kernel)
theorem dX1_copyFrom_24 : decode cX1_copyFrom 24 = .ok (.aload_n 0, 1) := dk_42 (by decide +kernel)
theorem dX1_copyFrom_25 : decode cX1_copyFrom 25 = .ok (.aload_n 1, 1) := dk_43 (by decide +kernel)
theorem dX1_copyFrom_26 : decode cX1_copyFrom 26 = .ok (.getfield 21, 3) := dk_180 (by decide +kernel)
theorem dX1_copyFrom_29 : decode cX1_copyFrom 29 = .ok (.putfield 21, 3) := dk_181 (by decide +kernel)
theorem dX1_copyFrom_32 : decode cX1_copyFrom 32 = .ok (.aload_n 0, 1) := dk_42 (by decide +kernel)
theorem dX1_copyFrom_33 : decode cX1_copyFrom 33 = .ok (.aload_n 1, 1) := dk_43 (by decide +kernel)
theorem dX1_copyFrom_34 : decode cX1_copyFrom 34 = .ok (.getfield 24, 3) := dk_180 (by decide +kernel)
theorem dX1_copyFrom_37 : decode cX1_copyFrom 37 = .ok (.putfield 24, 3) := dk_181 (by decide +kernel)
theorem dX1_copyFrom_40 : decode cX1_copyFrom 40 = .ok (.aload_n 0, 1) := dk_42 (by decide +kernel)
theorem dX1_copyFrom_41 : decode cX1_copyFrom 41 = .ok (.aload_n 1, 1) := dk_43 (by decide +kernel)
theorem dX1_copyFrom_42 : decode cX1_copyFrom 42 = .ok (.getfield 27, 3) := dk_180 (by decide +kernel)
theorem dX1_copyFrom_45 : decode cX1_copyFrom 45 = .ok (.putfield 27, 3) := dk_181 (by decide +kernel)
theorem dX1_copyFrom_48 : decode cX1_copyFrom 48 = .ok (.aload_n 0, 1) := dk_42 (by decide +kernel)
theorem dX1_copyFrom_49 : decode cX1_copyFrom 49 = .ok (.aload_n 1, 1) := dk_43 (by decide +kernel)
theorem dX1_copyFrom_50 : decode cX1_copyFrom 50 = .ok (.getfield 30, 3) := dk_180 (by decide +kernel)
theorem dX1_copyFrom_53 : decode cX1_copyFrom 53 = .ok (.putfield 30, 3) := dk_181 (by decide +kernel)
theorem dX1_copyFrom_56 : decode cX1_copyFrom 56 = .ok (.return_, 1) := dk_177 (by decide +kernel)
set_option maxRecDepth 100000 in
set_option maxHeartbeats 8000000 in
theorem x_X1_copyFrom (l : Launch) (D : va_G) (y : wY) (ad : Nat → Nat) (x0 : Nat) (x1 : Nat) (hx0 : Cl x0 1) (hx1 : Cl x1 1) (M : Mem) (K : Mem → Prop) (h : wp_X1_copyFrom x0 x1 M K) : MV l D y ad yX1_copyFrom (Cond.code yX1_copyFrom cX1_copyFrom 2 none) 0 M [.ref (ad x0), .ref (ad x1)] K := by
  refine MV_of (by decide) (Nat.le_of_ble_eq_true rfl) ?_
  intro p e s m args below meth c X hr hlocks
  delta wp_X1_copyFrom at h
  refine j_lv (lv1 := [(0, .ref (ad x0)), (1, .ref (ad x1))]) [0, 1] rfl ?_
  refine j_aload_n X 0 rfl rfl dX1_copyFrom_0 ?_
  refine j_aload_n X 1 rfl rfl dX1_copyFrom_1 ?_
  refine j_get X hx1.1 (wE_1 _ hx1.2) rfl awF1 0 (by decide) aw_175 rfl (v := .int (M x1 0)) rfl dX1_copyFrom_2 ?_
  refine j_put X (up M x0 0 (M x1 0)) up_o hx0.1 (wE_1 _ hx0.2) rfl awF1 0 (by decide) (wP_1_0 _ _ hx0.2) tyX1 tyX1_ok nmX1 rfl (ty := .int) (by decide +kernel) rfl rfl (Nat.le_of_ble_eq_true rfl) aw_175 rfl dX1_copyFrom_5 ?_
  refine j_aload_n X 0 rfl rfl dX1_copyFrom_8 ?_
  refine j_aload_n X 1 rfl rfl dX1_copyFrom_9 ?_
  refine j_get X hx1.1 (wE_1 _ hx1.2) rfl awF1 1 (by decide) aw_176 rfl (v := .int ((up M x0 0 (M x1 0)) x1 1)) rfl dX1_copyFrom_10 ?_
  refine j_put X (up (up M x0 0 (M x1 0)) x0 1 ((up M x0 0 (M x1 0)) x1 1)) up_o hx0.1 (wE_1 _ hx0.2) rfl awF1 1 (by decide) (wP_1_1 _ _ hx0.2) tyX1 tyX1_ok nmX1 rfl (ty := .int) (by decide +kernel) rfl rfl (Nat.le_of_ble_eq_true rfl) aw_176 rfl dX1_copyFrom_13 ?_
  refine j_aload_n X 0 rfl rfl dX1_copyFrom_16 ?_
  refine j_aload_n X 1 rfl rfl dX1_copyFrom_17 ?_
  refine j_get X hx1.1 (wE_1 _ hx1.2) rfl awF1 2 (by decide) aw_270 rfl (v := .int ((up (up M x0 0 (M x1 0)) x0 1 ((up M x0 0 (M x1 0)) x1 1)) x1 2)) rfl dX1_copyFrom_18 ?_
  refine j_put X (up (up (up M x0 0 (M x1 0)) x0 1 ((up M x0 0 (M x1 0)) x1 1)) x0 2 ((up (up M x0 0 (M x1 0)) x0 1 ((up M x0 0 (M x1 0)) x1 1)) x1 2)) up_o hx0.1 (wE_1 _ hx0.2) rfl awF1 2 (by decide) (wP_1_2 _ _ hx0.2) tyX1 tyX1_ok nmX1 rfl (ty := .int) (by decide +kernel) rfl rfl (Nat.le_of_ble_eq_true rfl) aw_270 rfl dX1_copyFrom_21 ?_
  refine j_topM (fun Mg_1 eMg_1 => ?_)
  replace h := h Mg_1 eMg_1
  refine j_aload_n X 0 rfl rfl dX1_copyFrom_24 ?_
  refine j_aload_n X 1 rfl rfl dX1_copyFrom_25 ?_
  refine j_get X hx1.1 (wE_1 _ hx1.2) rfl awF1 3 (by decide) aw_271 rfl (v := .int (Mg_1 x1 3)) rfl dX1_copyFrom_26 ?_
  refine j_put X (up Mg_1 x0 3 (Mg_1 x1 3)) up_o hx0.1 (wE_1 _ hx0.2) rfl awF1 3 (by decide) (wP_1_3 _ _ hx0.2) tyX1 tyX1_ok nmX1 rfl (ty := .int) (by decide +kernel) rfl rfl (Nat.le_of_ble_eq_true rfl) aw_271 rfl dX1_copyFrom_29 ?_
  refine j_aload_n X 0 rfl rfl dX1_copyFrom_32 ?_
  refine j_aload_n X 1 rfl rfl dX1_copyFrom_33 ?_
  refine j_get X hx1.1 (wE_1 _ hx1.2) rfl awF1 4 (by decide) aw_543 rfl (v := .int ((up Mg_1 x0 3 (Mg_1 x1 3)) x1 4)) rfl dX1_copyFrom_34 ?_
  refine j_put X (up (up Mg_1 x0 3 (Mg_1 x1 3)) x0 4 ((up Mg_1 x0 3 (Mg_1 x1 3)) x1 4)) up_o hx0.1 (wE_1 _ hx0.2) rfl awF1 4 (by decide) (wP_1_4 _ _ hx0.2) tyX1 tyX1_ok nmX1 rfl (ty := .int) (by decide +kernel) rfl rfl (Nat.le_of_ble_eq_true rfl) aw_543 rfl dX1_copyFrom_37 ?_
  refine j_aload_n X 0 rfl rfl dX1_copyFrom_40 ?_
  refine j_aload_n X 1 rfl rfl dX1_copyFrom_41 ?_
  refine j_get X hx1.1 (wE_1 _ hx1.2) rfl awF1 5 (by decide) aw_218 rfl (v := .int ((up (up Mg_1 x0 3 (Mg_1 x1 3)) x0 4 ((up Mg_1 x0 3 (Mg_1 x1 3)) x1 4)) x1 5)) rfl dX1_copyFrom_42 ?_
  refine j_put X (up (up (up Mg_1 x0 3 (Mg_1 x1 3)) x0 4 ((up Mg_1 x0 3 (Mg_1 x1 3)) x1 4)) x0 5 ((up (up Mg_1 x0 3 (Mg_1 x1 3)) x0 4 ((up Mg_1 x0 3 (Mg_1 x1 3)) x1 4)) x1 5)) up_o hx0.1 (wE_1 _ hx0.2) rfl awF1 5 (by decide) (wP_1_5 _ _ hx0.2) tyX1 tyX1_ok nmX1 rfl (ty := .int) (by decide +kernel) rfl rfl (Nat.le_of_ble_eq_true rfl) aw_218 rfl dX1_copyFrom_45 ?_
  refine j_topM (fun Mg_2 eMg_2 => ?_)
  replace h := h Mg_2 eMg_2
  refine j_aload_n X 0 rfl rfl dX1_copyFrom_48 ?_
  refine j_aload_n X 1 rfl rfl dX1_copyFrom_49 ?_
  refine j_get X hx1.1 (wE_1 _ hx1.2) rfl awF1 6 (by decide) aw_272 rfl (v := .int (Mg_2 x1 6)) rfl dX1_copyFrom_50 ?_
  obtain ⟨hb_3, h⟩ := h
  refine j_put X (up Mg_2 x0 6 (Mg_2 x1 6)) up_o hx0.1 (wE_1 _ hx0.2) rfl awF1 6 (by decide) (wP_1_6 _ _ hx0.2) tyX1 tyX1_ok nmX1 rfl (ty := .boolean) (by decide +kernel) (nar_bool hb_3) (fit_bool hb_3) (Nat.le_of_ble_eq_true rfl) aw_272 rfl dX1_copyFrom_53 ?_
  exact j_vret X hr hlocks dX1_copyFrom_56 h
theorem dX0_copyFrom_2 : decode cX0_copyFrom 2 = .ok (.iload_n 2, 1) := dk_28 (by decide +kernel)
theorem dX0_copyFrom_3 : decode cX0_copyFrom 3 = .ok (.aload_n 1, 1) := dk_43 (by decide +kernel)
theorem dX0_copyFrom_4 : decode cX0_copyFrom 4 = .ok (.getfield 29, 3) := dk_180 (by decide +kernel)
theorem dX0_copyFrom_7 : decode cX0_copyFrom 7 = .ok (.if_icmp .ge 24, 3) := dk_162 (by decide +kernel)
theorem dX0_copyFrom_31 : decode cX0_copyFrom 31 = .ok (.aload_n 0, 1) := dk_42 (by decide +kernel)
theorem dX0_copyFrom_32 : decode cX0_copyFrom 32 = .ok (.aload_n 1, 1) := dk_43 (by decide +kernel)
theorem dX0_copyFrom_33 : decode cX0_copyFrom 33 = .ok (.getfield 29, 3) := dk_180 (by decide +kernel)
theorem dX0_copyFrom_36 : decode cX0_copyFrom 36 = .ok (.putfield 29, 3) := dk_181 (by decide +kernel)
theorem dX0_copyFrom_39 : decode cX0_copyFrom 39 = .ok (.aload_n 0, 1) := dk_42 (by decide +kernel)
theorem dX0_copyFrom_40 : decode cX0_copyFrom 40 = .ok (.aload_n 1, 1) := dk_43 (by decide +kernel)
theorem dX0_copyFrom_41 : decode cX0_copyFrom 41 = .ok (.getfield 36, 3) := dk_180 (by decide +kernel)
theorem dX0_copyFrom_44 : decode cX0_copyFrom 44 = .ok (.putfield 36, 3) := dk_181 (by decide +kernel)
theorem dX0_copyFrom_47 : decode cX0_copyFrom 47 = .ok (.aload_n 0, 1) := dk_42 (by decide +kernel)
theorem dX0_copyFrom_48 : decode cX0_copyFrom 48 = .ok (.aload_n 1, 1) := dk_43 (by decide +kernel)
theorem dX0_copyFrom_49 : decode cX0_copyFrom 49 = .ok (.getfield 17, 3) := dk_180 (by decide +kernel)
theorem dX0_copyFrom_52 : decode cX0_copyFrom 52 = .ok (.putfield 17, 3) := dk_181 (by decide +kernel)
theorem dX0_copyFrom_55 : decode cX0_copyFrom 55 = .ok (.aload_n 0, 1) := dk_42 (by decide +kernel)
theorem dX0_copyFrom_56 : decode cX0_copyFrom 56 = .ok (.aload_n 1, 1) := dk_43 (by decide +kernel)
theorem dX0_copyFrom_57 : decode cX0_copyFrom 57 = .ok (.getfield 39, 3) := dk_180 (by decide +kernel)
theorem dX0_copyFrom_60 : decode cX0_copyFrom 60 = .ok (.putfield 39, 3) := dk_181 (by decide +kernel)
theorem dX0_copyFrom_63 : decode cX0_copyFrom 63 = .ok (.aload_n 0, 1) := dk_42 (by decide +kernel)
theorem dX0_copyFrom_64 : decode cX0_copyFrom 64 = .ok (.aload_n 1, 1) := dk_43 (by decide +kernel)
theorem dX0_copyFrom_65 : decode cX0_copyFrom 65 = .ok (.getfield 42, 3) := dk_180 (by decide +kernel)
theorem dX0_copyFrom_68 : decode cX0_copyFrom 68 = .ok (.putfield 42, 3) := dk_181 (by decide +kernel)
theorem dX0_copyFrom_71 : decode cX0_copyFrom 71 = .ok (.aload_n 0, 1) := dk_42 (by decide +kernel)
theorem dX0_copyFrom_72 : decode cX0_copyFrom 72 = .ok (.aload_n 1, 1) := dk_43 (by decide +kernel)
theorem dX0_copyFrom_73 : decode cX0_copyFrom 73 = .ok (.getfield 45, 3) := dk_180 (by decide +kernel)
theorem dX0_copyFrom_76 : decode cX0_copyFrom 76 = .ok (.putfield 45, 3) := dk_181 (by decide +kernel)
theorem dX0_copyFrom_79 : decode cX0_copyFrom 79 = .ok (.return_, 1) := dk_177 (by decide +kernel)
theorem dX0_copyFrom_10 : decode cX0_copyFrom 10 = .ok (.aload_n 0, 1) := dk_42 (by decide +kernel)
theorem dX0_copyFrom_11 : decode cX0_copyFrom 11 = .ok (.getfield 11, 3) := dk_180 (by decide +kernel)
theorem dX0_copyFrom_14 : decode cX0_copyFrom 14 = .ok (.iload_n 2, 1) := dk_28 (by decide +kernel)
theorem dX0_copyFrom_15 : decode cX0_copyFrom 15 = .ok (.aaload, 1) := dk_50 (by decide +kernel)
theorem dX0_copyFrom_16 : decode cX0_copyFrom 16 = .ok (.aload_n 1, 1) := dk_43 (by decide +kernel)
theorem dX0_copyFrom_17 : decode cX0_copyFrom 17 = .ok (.getfield 11, 3) := dk_180 (by decide +kernel)
theorem dX0_copyFrom_20 : decode cX0_copyFrom 20 = .ok (.iload_n 2, 1) := dk_28 (by decide +kernel)
theorem dX0_copyFrom_21 : decode cX0_copyFrom 21 = .ok (.aaload, 1) := dk_50 (by decide +kernel)
theorem dX0_copyFrom_22 : decode cX0_copyFrom 22 = .ok (.invokevirtual 32, 3) := dk_182 (by decide +kernel)
theorem dX0_copyFrom_25 : decode cX0_copyFrom 25 = .ok (.iinc 2 1, 3) := dk_132 (by decide +kernel)
theorem dX0_copyFrom_28 : decode cX0_copyFrom 28 = .ok (.goto (-26), 3) := dk_167 (by decide +kernel)
theorem dX0_copyFrom_0 : decode cX0_copyFrom 0 = .ok (.iconst 0, 1) := dk_3 (by decide +kernel)
theorem dX0_copyFrom_1 : decode cX0_copyFrom 1 = .ok (.istore_n 2, 1) := dk_61 (by decide +kernel)
set_option maxRecDepth 100000 in
set_option maxHeartbeats 8000000 in
theorem x_X0_copyFrom (l : Launch) (D : va_G) (y : wY) (ad : Nat → Nat) (x0 : Nat) (x1 : Nat) (hx0 : Cl x0 0) (hx1 : Cl x1 0) (M : Mem) (K : Mem → Prop) (h : wp_X0_copyFrom x0 x1 M K) : MV l D y ad yX0_copyFrom (Cond.code yX0_copyFrom cX0_copyFrom 3 none) 1 M [.ref (ad x0), .ref (ad x1)] K := by
  refine MV_of (by decide) (Nat.le_of_ble_eq_true rfl) ?_
  intro p e s m args below meth c X hr hlocks
  have hL2 : ∀ (x0 : Nat) (x1 : Nat) (hx0 : Cl x0 0) (hx1 : Cl x1 0) (n : Nat) (i2 : Int32) (Mb : Mem), wp_X0_copyFrom_L2 K x0 x1 n i2 Mb → J p l e (rmN 1) s m args below meth c 0 0 (QV K D y ad M s args below) D y ad (va_A (PL y ad M) s.heap.size) 3 Mb 2 [(0, .ref (ad x0)), (1, .ref (ad x1)), (2, .int i2)] [] := by
    intro x0 x1 hx0 hx1 n
    induction n with
    | zero => intro i2 Mb h; exact False.elim h
    | succ n hB2 =>
      intro i2 Mb h
      replace h : wp_X0_copyFrom_l2 K x0 x1 (wp_X0_copyFrom_L2 K x0 x1 n) i2 Mb := h
      delta wp_X0_copyFrom_l2 at h
      refine j_iload_n X 2 rfl rfl dX0_copyFrom_2 ?_
      refine j_aload_n X 1 rfl rfl dX0_copyFrom_3 ?_
      refine j_get X hx1.1 (wE_0 _ hx1.2) rfl awF0 3 (by decide) aw_155 rfl (v := .int (Mb x1 3)) rfl dX0_copyFrom_4 ?_
      refine j_icmp_ge X 31 (by decide) dX0_copyFrom_7 (fun q_201 => ?_) (fun q_201 => ?_)
      · replace h := h.1 q_201
        refine j_aload_n X 0 rfl rfl dX0_copyFrom_31 ?_
        refine j_aload_n X 1 rfl rfl dX0_copyFrom_32 ?_
        refine j_get X hx1.1 (wE_0 _ hx1.2) rfl awF0 3 (by decide) aw_155 rfl (v := .int (Mb x1 3)) rfl dX0_copyFrom_33 ?_
        refine j_put X (up Mb x0 3 (Mb x1 3)) up_o hx0.1 (wE_0 _ hx0.2) rfl awF0 3 (by decide) (wP_0_3 _ _ hx0.2) tyX0 tyX0_ok nmX0 rfl (ty := .int) (by decide +kernel) rfl rfl (Nat.le_of_ble_eq_true rfl) aw_155 rfl dX0_copyFrom_36 ?_
        refine j_aload_n X 0 rfl rfl dX0_copyFrom_39 ?_
        refine j_aload_n X 1 rfl rfl dX0_copyFrom_40 ?_
        refine j_get X hx1.1 (wE_0 _ hx1.2) rfl awF0 4 (by decide) aw_124 rfl (v := .int ((up Mb x0 3 (Mb x1 3)) x1 4)) rfl dX0_copyFrom_41 ?_
        refine j_put X (up (up Mb x0 3 (Mb x1 3)) x0 4 ((up Mb x0 3 (Mb x1 3)) x1 4)) up_o hx0.1 (wE_0 _ hx0.2) rfl awF0 4 (by decide) (wP_0_4 _ _ hx0.2) tyX0 tyX0_ok nmX0 rfl (ty := .int) (by decide +kernel) rfl rfl (Nat.le_of_ble_eq_true rfl) aw_124 rfl dX0_copyFrom_44 ?_
        refine j_aload_n X 0 rfl rfl dX0_copyFrom_47 ?_
        refine j_aload_n X 1 rfl rfl dX0_copyFrom_48 ?_
        refine j_get X hx1.1 (wE_0 _ hx1.2) rfl awF0 5 (by decide) aw_61 rfl (v := .int ((up (up Mb x0 3 (Mb x1 3)) x0 4 ((up Mb x0 3 (Mb x1 3)) x1 4)) x1 5)) rfl dX0_copyFrom_49 ?_
        refine j_put X (up (up (up Mb x0 3 (Mb x1 3)) x0 4 ((up Mb x0 3 (Mb x1 3)) x1 4)) x0 5 ((up (up Mb x0 3 (Mb x1 3)) x0 4 ((up Mb x0 3 (Mb x1 3)) x1 4)) x1 5)) up_o hx0.1 (wE_0 _ hx0.2) rfl awF0 5 (by decide) (wP_0_5 _ _ hx0.2) tyX0 tyX0_ok nmX0 rfl (ty := .int) (by decide +kernel) rfl rfl (Nat.le_of_ble_eq_true rfl) aw_61 rfl dX0_copyFrom_52 ?_
        refine j_topM (fun Mg_202 eMg_202 => ?_)
        replace h := h Mg_202 eMg_202
        refine j_aload_n X 0 rfl rfl dX0_copyFrom_55 ?_
        refine j_aload_n X 1 rfl rfl dX0_copyFrom_56 ?_
        refine j_get X hx1.1 (wE_0 _ hx1.2) rfl awF0 6 (by decide) aw_197 rfl (v := .int (Mg_202 x1 6)) rfl dX0_copyFrom_57 ?_
        refine j_put X (up Mg_202 x0 6 (Mg_202 x1 6)) up_o hx0.1 (wE_0 _ hx0.2) rfl awF0 6 (by decide) (wP_0_6 _ _ hx0.2) tyX0 tyX0_ok nmX0 rfl (ty := .int) (by decide +kernel) rfl rfl (Nat.le_of_ble_eq_true rfl) aw_197 rfl dX0_copyFrom_60 ?_
        refine j_aload_n X 0 rfl rfl dX0_copyFrom_63 ?_
        refine j_aload_n X 1 rfl rfl dX0_copyFrom_64 ?_
        refine j_get X hx1.1 (wE_0 _ hx1.2) rfl awF0 7 (by decide) aw_125 rfl (v := .int ((up Mg_202 x0 6 (Mg_202 x1 6)) x1 7)) rfl dX0_copyFrom_65 ?_
        refine j_put X (up (up Mg_202 x0 6 (Mg_202 x1 6)) x0 7 ((up Mg_202 x0 6 (Mg_202 x1 6)) x1 7)) up_o hx0.1 (wE_0 _ hx0.2) rfl awF0 7 (by decide) (wP_0_7 _ _ hx0.2) tyX0 tyX0_ok nmX0 rfl (ty := .int) (by decide +kernel) rfl rfl (Nat.le_of_ble_eq_true rfl) aw_125 rfl dX0_copyFrom_68 ?_
        refine j_aload_n X 0 rfl rfl dX0_copyFrom_71 ?_
        refine j_aload_n X 1 rfl rfl dX0_copyFrom_72 ?_
        refine j_get X hx1.1 (wE_0 _ hx1.2) rfl awF0 8 (by decide) aw_126 rfl (v := .int ((up (up Mg_202 x0 6 (Mg_202 x1 6)) x0 7 ((up Mg_202 x0 6 (Mg_202 x1 6)) x1 7)) x1 8)) rfl dX0_copyFrom_73 ?_
        refine j_put X (up (up (up Mg_202 x0 6 (Mg_202 x1 6)) x0 7 ((up Mg_202 x0 6 (Mg_202 x1 6)) x1 7)) x0 8 ((up (up Mg_202 x0 6 (Mg_202 x1 6)) x0 7 ((up Mg_202 x0 6 (Mg_202 x1 6)) x1 7)) x1 8)) up_o hx0.1 (wE_0 _ hx0.2) rfl awF0 8 (by decide) (wP_0_8 _ _ hx0.2) tyX0 tyX0_ok nmX0 rfl (ty := .int) (by decide +kernel) rfl rfl (Nat.le_of_ble_eq_true rfl) aw_126 rfl dX0_copyFrom_76 ?_
        refine j_topM (fun Mg_203 eMg_203 => ?_)
        replace h := h Mg_203 eMg_203
        exact j_vret X hr hlocks dX0_copyFrom_79 h
      · replace h := h.2 q_201
        refine j_aload_n X 0 rfl rfl dX0_copyFrom_10 ?_
        refine j_get X hx0.1 (wE_0 _ hx0.2) rfl awF0 2 (by decide) aw_60 rfl (v := .ref (ad (rf x0 2))) rfl dX0_copyFrom_11 ?_
        have hk_204 := kf_0_2 hx0
        refine j_iload_n X 2 rfl rfl dX0_copyFrom_14 ?_
        obtain ⟨hi_205, h⟩ := h
        refine j_aald10 X hk_204.1 hk_204.2 hi_205 dX0_copyFrom_15 ?_
        have hk_206 := ke_10 hk_204 hi_205
        refine j_aload_n X 1 rfl rfl dX0_copyFrom_16 ?_
        refine j_get X hx1.1 (wE_0 _ hx1.2) rfl awF0 2 (by decide) aw_60 rfl (v := .ref (ad (rf x1 2))) rfl dX0_copyFrom_17 ?_
        have hk_207 := kf_0_2 hx1
        refine j_iload_n X 2 rfl rfl dX0_copyFrom_20 ?_
        obtain ⟨hi_208, h⟩ := h
        refine j_aald10 X hk_207.1 hk_207.2 hi_208 dX0_copyFrom_21 ?_
        have hk_209 := ke_10 hk_207 hi_208
        refine j_callVNV X (nn := 1) (As := [.ref (ad (rf (rf x1 2) i2.toNatClampNeg))]) (st := []) (ci := 1) hk_206.1 (wE_1 _ hk_206.2) rfl aw_540 aw_541 (x_X1_copyFrom l D y ad (rf (rf x0 2) i2.toNatClampNeg) (rf (rf x1 2) i2.toNatClampNeg) hk_206 hk_209 _ _ h) (List.mem_of_getElem? (i := 34) rfl) aw_542 aw_65 (by decide +kernel) ⟨Nat.le_of_ble_eq_true rfl, Nat.le_of_ble_eq_true rfl⟩ rfl (Nat.le_of_ble_eq_true rfl) ⟨Nat.le_of_ble_eq_true rfl, Nat.le_of_ble_eq_true rfl⟩ dX0_copyFrom_22 ?_
        intro M210 h
        refine j_iinc X (v := (i2 + 1)) 2 [(2, .int (i2 + 1)), (0, .ref (ad x0)), (1, .ref (ad x1))] rfl rfl (by decide) rfl dX0_copyFrom_25 ?_
        refine j_goto X 2 (by decide) dX0_copyFrom_28 ?_
        refine j_lv (lv1 := [(0, .ref (ad x0)), (1, .ref (ad x1)), (2, .int (i2 + 1))]) [1, 2, 0] rfl ?_
        exact hB2 _ _ h
  delta wp_X0_copyFrom at h
  refine j_lv (lv1 := [(0, .ref (ad x0)), (1, .ref (ad x1))]) [0, 1] rfl ?_
  refine j_iconst X (v := 0) (by decide) dX0_copyFrom_0 ?_
  refine j_istore_n X [(2, .int 0), (0, .ref (ad x0)), (1, .ref (ad x1))] rfl (by decide) rfl dX0_copyFrom_1 ?_
  refine j_lv (lv1 := [(0, .ref (ad x0)), (1, .ref (ad x1)), (2, .int 0)]) [1, 2, 0] rfl ?_
  obtain ⟨n2, h⟩ := h
  exact hL2 _ _ hx0 hx1  n2 _ _ h
theorem dX0_setGrinder_0 : decode cX0_setGrinder 0 = .ok (.iload_n 1, 1) := dk_27 (by decide +kernel)
theorem dX0_setGrinder_1 : decode cX0_setGrinder 1 = .ok (.tableswitch 63 0 2 #[27, 39, 51], 27) := by decide +kernel
theorem dX0_setGrinder_28 : decode cX0_setGrinder 28 = .ok (.aload_n 0, 1) := dk_42 (by decide +kernel)
theorem dX0_setGrinder_29 : decode cX0_setGrinder 29 = .ok (.getfield 36, 3) := dk_180 (by decide +kernel)
theorem dX0_setGrinder_32 : decode cX0_setGrinder 32 = .ok (.istore_n 3, 1) := dk_62 (by decide +kernel)
theorem dX0_setGrinder_33 : decode cX0_setGrinder 33 = .ok (.aload_n 0, 1) := dk_42 (by decide +kernel)
theorem dX0_setGrinder_34 : decode cX0_setGrinder 34 = .ok (.iload_n 2, 1) := dk_28 (by decide +kernel)
theorem dX0_setGrinder_35 : decode cX0_setGrinder 35 = .ok (.putfield 36, 3) := dk_181 (by decide +kernel)
theorem dX0_setGrinder_38 : decode cX0_setGrinder 38 = .ok (.iload_n 3, 1) := dk_29 (by decide +kernel)
theorem dX0_setGrinder_39 : decode cX0_setGrinder 39 = .ok (.ireturn, 1) := dk_172 (by decide +kernel)
theorem dX0_setGrinder_40 : decode cX0_setGrinder 40 = .ok (.aload_n 0, 1) := dk_42 (by decide +kernel)
theorem dX0_setGrinder_41 : decode cX0_setGrinder 41 = .ok (.getfield 17, 3) := dk_180 (by decide +kernel)
theorem dX0_setGrinder_44 : decode cX0_setGrinder 44 = .ok (.istore_n 3, 1) := dk_62 (by decide +kernel)
theorem dX0_setGrinder_45 : decode cX0_setGrinder 45 = .ok (.aload_n 0, 1) := dk_42 (by decide +kernel)
theorem dX0_setGrinder_46 : decode cX0_setGrinder 46 = .ok (.iload_n 2, 1) := dk_28 (by decide +kernel)
theorem dX0_setGrinder_47 : decode cX0_setGrinder 47 = .ok (.putfield 17, 3) := dk_181 (by decide +kernel)
theorem dX0_setGrinder_50 : decode cX0_setGrinder 50 = .ok (.iload_n 3, 1) := dk_29 (by decide +kernel)
theorem dX0_setGrinder_51 : decode cX0_setGrinder 51 = .ok (.ireturn, 1) := dk_172 (by decide +kernel)
theorem dX0_setGrinder_52 : decode cX0_setGrinder 52 = .ok (.aload_n 0, 1) := dk_42 (by decide +kernel)
theorem dX0_setGrinder_53 : decode cX0_setGrinder 53 = .ok (.getfield 42, 3) := dk_180 (by decide +kernel)
theorem dX0_setGrinder_56 : decode cX0_setGrinder 56 = .ok (.istore_n 3, 1) := dk_62 (by decide +kernel)
theorem dX0_setGrinder_57 : decode cX0_setGrinder 57 = .ok (.aload_n 0, 1) := dk_42 (by decide +kernel)
theorem dX0_setGrinder_58 : decode cX0_setGrinder 58 = .ok (.iload_n 2, 1) := dk_28 (by decide +kernel)
theorem dX0_setGrinder_59 : decode cX0_setGrinder 59 = .ok (.putfield 42, 3) := dk_181 (by decide +kernel)
theorem dX0_setGrinder_62 : decode cX0_setGrinder 62 = .ok (.iload_n 3, 1) := dk_29 (by decide +kernel)
theorem dX0_setGrinder_63 : decode cX0_setGrinder 63 = .ok (.ireturn, 1) := dk_172 (by decide +kernel)
theorem dX0_setGrinder_64 : decode cX0_setGrinder 64 = .ok (.aload_n 0, 1) := dk_42 (by decide +kernel)
theorem dX0_setGrinder_65 : decode cX0_setGrinder 65 = .ok (.getfield 45, 3) := dk_180 (by decide +kernel)
theorem dX0_setGrinder_68 : decode cX0_setGrinder 68 = .ok (.istore_n 3, 1) := dk_62 (by decide +kernel)
theorem dX0_setGrinder_69 : decode cX0_setGrinder 69 = .ok (.aload_n 0, 1) := dk_42 (by decide +kernel)
theorem dX0_setGrinder_70 : decode cX0_setGrinder 70 = .ok (.iload_n 2, 1) := dk_28 (by decide +kernel)
theorem dX0_setGrinder_71 : decode cX0_setGrinder 71 = .ok (.putfield 45, 3) := dk_181 (by decide +kernel)
theorem dX0_setGrinder_74 : decode cX0_setGrinder 74 = .ok (.iload_n 3, 1) := dk_29 (by decide +kernel)
theorem dX0_setGrinder_75 : decode cX0_setGrinder 75 = .ok (.ireturn, 1) := dk_172 (by decide +kernel)
set_option maxRecDepth 100000 in
set_option maxHeartbeats 8000000 in
theorem x_X0_setGrinder (l : Launch) (D : va_G) (y : wY) (ad : Nat → Nat) (x0 : Nat) (i1 : Int32) (i2 : Int32) (hx0 : Cl x0 0) (M : Mem) (K : Int32 → Mem → Prop) (h : wp_X0_setGrinder x0 i1 i2 M K) : MI l D y ad yX0_setGrinder (Cond.code yX0_setGrinder cX0_setGrinder 4 (some .int)) 0 M [.ref (ad x0), .int i1, .int i2] K := by
  refine MI_of (by decide) (Nat.le_of_ble_eq_true rfl) ?_
  intro p e s m args below meth c X hr hlocks
  delta wp_X0_setGrinder at h
  refine j_lv (lv1 := [(0, .ref (ad x0)), (1, .int i1), (2, .int i2)]) [0, 1, 2] rfl ?_
  refine j_iload_n X 1 rfl rfl dX0_setGrinder_0 ?_
  by_cases w_1 : i1 = 0
  · replace h := h.1 w_1
    refine j_tsw_in X 28 0 w_1 (by decide) (by decide) (off := 27) rfl (by decide) dX0_setGrinder_1 ?_
    refine j_aload_n X 0 rfl rfl dX0_setGrinder_28 ?_
    refine j_get X hx0.1 (wE_0 _ hx0.2) rfl awF0 4 (by decide) aw_124 rfl (v := .int (M x0 4)) rfl dX0_setGrinder_29 ?_
    refine j_istore_n X [(3, .int (M x0 4)), (0, .ref (ad x0)), (1, .int i1), (2, .int i2)] rfl (by decide) rfl dX0_setGrinder_32 ?_
    refine j_aload_n X 1 rfl rfl dX0_setGrinder_33 ?_
    refine j_iload_n X 3 rfl rfl dX0_setGrinder_34 ?_
    refine j_put X (up M x0 4 i2) up_o hx0.1 (wE_0 _ hx0.2) rfl awF0 4 (by decide) (wP_0_4 _ _ hx0.2) tyX0 tyX0_ok nmX0 rfl (ty := .int) (by decide +kernel) rfl rfl (Nat.le_of_ble_eq_true rfl) aw_124 rfl dX0_setGrinder_35 ?_
    refine j_iload_n X 0 rfl rfl dX0_setGrinder_38 ?_
    exact j_iret X hr hlocks dX0_setGrinder_39 h
  replace h := h.2 w_1
  by_cases w_2 : i1 = 1
  · replace h := h.1 w_2
    refine j_tsw_in X 40 1 w_2 (by decide) (by decide) (off := 39) rfl (by decide) dX0_setGrinder_1 ?_
    refine j_aload_n X 0 rfl rfl dX0_setGrinder_40 ?_
    refine j_get X hx0.1 (wE_0 _ hx0.2) rfl awF0 5 (by decide) aw_61 rfl (v := .int (M x0 5)) rfl dX0_setGrinder_41 ?_
    refine j_istore_n X [(3, .int (M x0 5)), (0, .ref (ad x0)), (1, .int i1), (2, .int i2)] rfl (by decide) rfl dX0_setGrinder_44 ?_
    refine j_aload_n X 1 rfl rfl dX0_setGrinder_45 ?_
    refine j_iload_n X 3 rfl rfl dX0_setGrinder_46 ?_
    refine j_put X (up M x0 5 i2) up_o hx0.1 (wE_0 _ hx0.2) rfl awF0 5 (by decide) (wP_0_5 _ _ hx0.2) tyX0 tyX0_ok nmX0 rfl (ty := .int) (by decide +kernel) rfl rfl (Nat.le_of_ble_eq_true rfl) aw_61 rfl dX0_setGrinder_47 ?_
    refine j_iload_n X 0 rfl rfl dX0_setGrinder_50 ?_
    exact j_iret X hr hlocks dX0_setGrinder_51 h
  replace h := h.2 w_2
  by_cases w_3 : i1 = 2
  · replace h := h.1 w_3
    refine j_tsw_in X 52 2 w_3 (by decide) (by decide) (off := 51) rfl (by decide) dX0_setGrinder_1 ?_
    refine j_aload_n X 0 rfl rfl dX0_setGrinder_52 ?_
    refine j_get X hx0.1 (wE_0 _ hx0.2) rfl awF0 7 (by decide) aw_125 rfl (v := .int (M x0 7)) rfl dX0_setGrinder_53 ?_
    refine j_istore_n X [(3, .int (M x0 7)), (0, .ref (ad x0)), (1, .int i1), (2, .int i2)] rfl (by decide) rfl dX0_setGrinder_56 ?_
    refine j_aload_n X 1 rfl rfl dX0_setGrinder_57 ?_
    refine j_iload_n X 3 rfl rfl dX0_setGrinder_58 ?_
    refine j_put X (up M x0 7 i2) up_o hx0.1 (wE_0 _ hx0.2) rfl awF0 7 (by decide) (wP_0_7 _ _ hx0.2) tyX0 tyX0_ok nmX0 rfl (ty := .int) (by decide +kernel) rfl rfl (Nat.le_of_ble_eq_true rfl) aw_125 rfl dX0_setGrinder_59 ?_
    refine j_iload_n X 0 rfl rfl dX0_setGrinder_62 ?_
    exact j_iret X hr hlocks dX0_setGrinder_63 h
  replace h := h.2 w_3
  have qw_1 := ti_ne (n := 0) (by decide) w_1
  have qw_2 := ti_ne (n := 1) (by decide) w_2
  have qw_3 := ti_ne (n := 2) (by decide) w_3
  refine j_tsw_out X 64 (by omega) (by decide) dX0_setGrinder_1 ?_
  refine j_aload_n X 0 rfl rfl dX0_setGrinder_64 ?_
  refine j_get X hx0.1 (wE_0 _ hx0.2) rfl awF0 8 (by decide) aw_126 rfl (v := .int (M x0 8)) rfl dX0_setGrinder_65 ?_
  refine j_istore_n X [(3, .int (M x0 8)), (0, .ref (ad x0)), (1, .int i1), (2, .int i2)] rfl (by decide) rfl dX0_setGrinder_68 ?_
  refine j_aload_n X 1 rfl rfl dX0_setGrinder_69 ?_
  refine j_iload_n X 3 rfl rfl dX0_setGrinder_70 ?_
  refine j_put X (up M x0 8 i2) up_o hx0.1 (wE_0 _ hx0.2) rfl awF0 8 (by decide) (wP_0_8 _ _ hx0.2) tyX0 tyX0_ok nmX0 rfl (ty := .int) (by decide +kernel) rfl rfl (Nat.le_of_ble_eq_true rfl) aw_126 rfl dX0_setGrinder_71 ?_
  refine j_iload_n X 0 rfl rfl dX0_setGrinder_74 ?_
  exact j_iret X hr hlocks dX0_setGrinder_75 h
theorem dX1_dulls_0 : decode cX1_dulls 0 = .ok (.aload_n 0, 1) := dk_42 (by decide +kernel)
theorem dX1_dulls_1 : decode cX1_dulls 1 = .ok (.getfield 9, 3) := dk_180 (by decide +kernel)
theorem dX1_dulls_4 : decode cX1_dulls 4 = .ok (.tableswitch 47 1 6 #[40, 42, 45, 40, 42, 45], 40) := by decide +kernel
theorem dX1_dulls_44 : decode cX1_dulls 44 = .ok (.iconst 4, 1) := dk_7 (by decide +kernel)
theorem dX1_dulls_45 : decode cX1_dulls 45 = .ok (.ireturn, 1) := dk_172 (by decide +kernel)
theorem dX1_dulls_46 : decode cX1_dulls 46 = .ok (.bipush 6, 2) := dk_16 (by decide +kernel)
theorem dX1_dulls_48 : decode cX1_dulls 48 = .ok (.ireturn, 1) := dk_172 (by decide +kernel)
theorem dX1_dulls_49 : decode cX1_dulls 49 = .ok (.iconst 1, 1) := dk_4 (by decide +kernel)
theorem dX1_dulls_50 : decode cX1_dulls 50 = .ok (.ireturn, 1) := dk_172 (by decide +kernel)
theorem dX1_dulls_51 : decode cX1_dulls 51 = .ok (.iconst 3, 1) := dk_6 (by decide +kernel)
theorem dX1_dulls_52 : decode cX1_dulls 52 = .ok (.ireturn, 1) := dk_172 (by decide +kernel)
set_option maxRecDepth 100000 in
set_option maxHeartbeats 8000000 in
theorem x_X1_dulls (l : Launch) (D : va_G) (y : wY) (ad : Nat → Nat) (x0 : Nat) (hx0 : Cl x0 1) (M : Mem) (K : Int32 → Mem → Prop) (h : wp_X1_dulls x0 M K) : MI l D y ad yX1_dulls (Cond.code yX1_dulls cX1_dulls 1 (some .int)) 0 M [.ref (ad x0)] K := by
  refine MI_of (by decide) (Nat.le_of_ble_eq_true rfl) ?_
  intro p e s m args below meth c X hr hlocks
  delta wp_X1_dulls at h
  refine j_lv (lv1 := [(0, .ref (ad x0))]) [0] rfl ?_
  refine j_aload_n X 0 rfl rfl dX1_dulls_0 ?_
  refine j_get X hx0.1 (wE_1 _ hx0.2) rfl awF1 0 (by decide) aw_175 rfl (v := .int (M x0 0)) rfl dX1_dulls_1 ?_
  by_cases w_1 : (M x0 0) = 1
  · replace h := h.1 w_1
    refine j_tsw_in X 44 1 w_1 (by decide) (by decide) (off := 40) rfl (by decide) dX1_dulls_4 ?_
    refine j_iconst X (v := 4) (by decide) dX1_dulls_44 ?_
    exact j_iret X hr hlocks dX1_dulls_45 h
  replace h := h.2 w_1
  by_cases w_2 : (M x0 0) = 2
  · replace h := h.1 w_2
    refine j_tsw_in X 46 2 w_2 (by decide) (by decide) (off := 42) rfl (by decide) dX1_dulls_4 ?_
    refine j_bipush X (v := 6) (by decide) dX1_dulls_46 ?_
    exact j_iret X hr hlocks dX1_dulls_48 h
  replace h := h.2 w_2
  by_cases w_3 : (M x0 0) = 3
  · replace h := h.1 w_3
    refine j_tsw_in X 49 3 w_3 (by decide) (by decide) (off := 45) rfl (by decide) dX1_dulls_4 ?_
    refine j_iconst X (v := 1) (by decide) dX1_dulls_49 ?_
    exact j_iret X hr hlocks dX1_dulls_50 h
  replace h := h.2 w_3
  by_cases w_4 : (M x0 0) = 4
  · replace h := h.1 w_4
    refine j_tsw_in X 44 4 w_4 (by decide) (by decide) (off := 40) rfl (by decide) dX1_dulls_4 ?_
    refine j_iconst X (v := 4) (by decide) dX1_dulls_44 ?_
    exact j_iret X hr hlocks dX1_dulls_45 h
  replace h := h.2 w_4
  by_cases w_5 : (M x0 0) = 5
  · replace h := h.1 w_5
    refine j_tsw_in X 46 5 w_5 (by decide) (by decide) (off := 42) rfl (by decide) dX1_dulls_4 ?_
    refine j_bipush X (v := 6) (by decide) dX1_dulls_46 ?_
    exact j_iret X hr hlocks dX1_dulls_48 h
  replace h := h.2 w_5
  by_cases w_6 : (M x0 0) = 6
  · replace h := h.1 w_6
    refine j_tsw_in X 49 6 w_6 (by decide) (by decide) (off := 45) rfl (by decide) dX1_dulls_4 ?_
    refine j_iconst X (v := 1) (by decide) dX1_dulls_49 ?_
    exact j_iret X hr hlocks dX1_dulls_50 h
  replace h := h.2 w_6
  have qw_1 := ti_ne (n := 1) (by decide) w_1
  have qw_2 := ti_ne (n := 2) (by decide) w_2
  have qw_3 := ti_ne (n := 3) (by decide) w_3
  have qw_4 := ti_ne (n := 4) (by decide) w_4
  have qw_5 := ti_ne (n := 5) (by decide) w_5
  have qw_6 := ti_ne (n := 6) (by decide) w_6
  refine j_tsw_out X 51 (by omega) (by decide) dX1_dulls_4 ?_
  refine j_iconst X (v := 3) (by decide) dX1_dulls_51 ?_
  exact j_iret X hr hlocks dX1_dulls_52 h
theorem dX4_joined_0 : decode cX4_joined 0 = .ok (.iload_n 0, 1) := dk_26 (by decide +kernel)
theorem dX4_joined_1 : decode cX4_joined 1 = .ok (.lookupswitch 188 #[(37, 176), (38, 105), (42, 160), (43, 152), (45, 156), (47, 164), (60, 119), (61, 130), (62, 141), (124, 91)], 91) := by decide +kernel
theorem dX4_joined_177 : decode cX4_joined 177 = .ok (.iload_n 2, 1) := dk_28 (by decide +kernel)
theorem dX4_joined_178 : decode cX4_joined 178 = .ok (.ifCond .ne 7, 3) := dk_154 (by decide +kernel)
theorem dX4_joined_185 : decode cX4_joined 185 = .ok (.iload_n 1, 1) := dk_27 (by decide +kernel)
theorem dX4_joined_186 : decode cX4_joined 186 = .ok (.iload_n 2, 1) := dk_28 (by decide +kernel)
theorem dX4_joined_187 : decode cX4_joined 187 = .ok (.irem, 1) := dk_112 (by decide +kernel)
theorem dX4_joined_188 : decode cX4_joined 188 = .ok (.ireturn, 1) := dk_172 (by decide +kernel)
theorem dX4_joined_181 : decode cX4_joined 181 = .ok (.iconst 0, 1) := dk_3 (by decide +kernel)
theorem dX4_joined_182 : decode cX4_joined 182 = .ok (.goto 6, 3) := dk_167 (by decide +kernel)
theorem dX4_joined_106 : decode cX4_joined 106 = .ok (.iload_n 1, 1) := dk_27 (by decide +kernel)
theorem dX4_joined_107 : decode cX4_joined 107 = .ok (.ifCond .eq 11, 3) := dk_153 (by decide +kernel)
theorem dX4_joined_118 : decode cX4_joined 118 = .ok (.iconst 0, 1) := dk_3 (by decide +kernel)
theorem dX4_joined_119 : decode cX4_joined 119 = .ok (.ireturn, 1) := dk_172 (by decide +kernel)
theorem dX4_joined_110 : decode cX4_joined 110 = .ok (.iload_n 2, 1) := dk_28 (by decide +kernel)
theorem dX4_joined_111 : decode cX4_joined 111 = .ok (.ifCond .eq 7, 3) := dk_153 (by decide +kernel)
theorem dX4_joined_114 : decode cX4_joined 114 = .ok (.iconst 1, 1) := dk_4 (by decide +kernel)
theorem dX4_joined_115 : decode cX4_joined 115 = .ok (.goto 4, 3) := dk_167 (by decide +kernel)
theorem dX4_joined_161 : decode cX4_joined 161 = .ok (.iload_n 1, 1) := dk_27 (by decide +kernel)
theorem dX4_joined_162 : decode cX4_joined 162 = .ok (.iload_n 2, 1) := dk_28 (by decide +kernel)
theorem dX4_joined_163 : decode cX4_joined 163 = .ok (.imul, 1) := dk_104 (by decide +kernel)
theorem dX4_joined_164 : decode cX4_joined 164 = .ok (.ireturn, 1) := dk_172 (by decide +kernel)
theorem dX4_joined_153 : decode cX4_joined 153 = .ok (.iload_n 1, 1) := dk_27 (by decide +kernel)
theorem dX4_joined_154 : decode cX4_joined 154 = .ok (.iload_n 2, 1) := dk_28 (by decide +kernel)
theorem dX4_joined_155 : decode cX4_joined 155 = .ok (.iadd, 1) := dk_96 (by decide +kernel)
theorem dX4_joined_156 : decode cX4_joined 156 = .ok (.ireturn, 1) := dk_172 (by decide +kernel)
theorem dX4_joined_157 : decode cX4_joined 157 = .ok (.iload_n 1, 1) := dk_27 (by decide +kernel)
theorem dX4_joined_158 : decode cX4_joined 158 = .ok (.iload_n 2, 1) := dk_28 (by decide +kernel)
theorem dX4_joined_159 : decode cX4_joined 159 = .ok (.isub, 1) := dk_100 (by decide +kernel)
theorem dX4_joined_160 : decode cX4_joined 160 = .ok (.ireturn, 1) := dk_172 (by decide +kernel)
theorem dX4_joined_165 : decode cX4_joined 165 = .ok (.iload_n 2, 1) := dk_28 (by decide +kernel)
theorem dX4_joined_166 : decode cX4_joined 166 = .ok (.ifCond .ne 7, 3) := dk_154 (by decide +kernel)
theorem dX4_joined_173 : decode cX4_joined 173 = .ok (.iload_n 1, 1) := dk_27 (by decide +kernel)
theorem dX4_joined_174 : decode cX4_joined 174 = .ok (.iload_n 2, 1) := dk_28 (by decide +kernel)
theorem dX4_joined_175 : decode cX4_joined 175 = .ok (.idiv, 1) := dk_108 (by decide +kernel)
theorem dX4_joined_176 : decode cX4_joined 176 = .ok (.ireturn, 1) := dk_172 (by decide +kernel)
theorem dX4_joined_169 : decode cX4_joined 169 = .ok (.iconst 0, 1) := dk_3 (by decide +kernel)
theorem dX4_joined_170 : decode cX4_joined 170 = .ok (.goto 6, 3) := dk_167 (by decide +kernel)
theorem dX4_joined_120 : decode cX4_joined 120 = .ok (.iload_n 1, 1) := dk_27 (by decide +kernel)
theorem dX4_joined_121 : decode cX4_joined 121 = .ok (.iload_n 2, 1) := dk_28 (by decide +kernel)
theorem dX4_joined_122 : decode cX4_joined 122 = .ok (.if_icmp .ge 7, 3) := dk_162 (by decide +kernel)
theorem dX4_joined_129 : decode cX4_joined 129 = .ok (.iconst 0, 1) := dk_3 (by decide +kernel)
theorem dX4_joined_130 : decode cX4_joined 130 = .ok (.ireturn, 1) := dk_172 (by decide +kernel)
theorem dX4_joined_125 : decode cX4_joined 125 = .ok (.iconst 1, 1) := dk_4 (by decide +kernel)
theorem dX4_joined_126 : decode cX4_joined 126 = .ok (.goto 4, 3) := dk_167 (by decide +kernel)
theorem dX4_joined_131 : decode cX4_joined 131 = .ok (.iload_n 1, 1) := dk_27 (by decide +kernel)
theorem dX4_joined_132 : decode cX4_joined 132 = .ok (.iload_n 2, 1) := dk_28 (by decide +kernel)
theorem dX4_joined_133 : decode cX4_joined 133 = .ok (.if_icmp .ne 7, 3) := dk_160 (by decide +kernel)
theorem dX4_joined_140 : decode cX4_joined 140 = .ok (.iconst 0, 1) := dk_3 (by decide +kernel)
theorem dX4_joined_141 : decode cX4_joined 141 = .ok (.ireturn, 1) := dk_172 (by decide +kernel)
theorem dX4_joined_136 : decode cX4_joined 136 = .ok (.iconst 1, 1) := dk_4 (by decide +kernel)
theorem dX4_joined_137 : decode cX4_joined 137 = .ok (.goto 4, 3) := dk_167 (by decide +kernel)
theorem dX4_joined_142 : decode cX4_joined 142 = .ok (.iload_n 1, 1) := dk_27 (by decide +kernel)
theorem dX4_joined_143 : decode cX4_joined 143 = .ok (.iload_n 2, 1) := dk_28 (by decide +kernel)
theorem dX4_joined_144 : decode cX4_joined 144 = .ok (.if_icmp .le 7, 3) := dk_164 (by decide +kernel)
theorem dX4_joined_151 : decode cX4_joined 151 = .ok (.iconst 0, 1) := dk_3 (by decide +kernel)
theorem dX4_joined_152 : decode cX4_joined 152 = .ok (.ireturn, 1) := dk_172 (by decide +kernel)
theorem dX4_joined_147 : decode cX4_joined 147 = .ok (.iconst 1, 1) := dk_4 (by decide +kernel)
theorem dX4_joined_148 : decode cX4_joined 148 = .ok (.goto 4, 3) := dk_167 (by decide +kernel)
theorem dX4_joined_92 : decode cX4_joined 92 = .ok (.iload_n 1, 1) := dk_27 (by decide +kernel)
theorem dX4_joined_93 : decode cX4_joined 93 = .ok (.ifCond .ne 7, 3) := dk_154 (by decide +kernel)
theorem dX4_joined_100 : decode cX4_joined 100 = .ok (.iconst 1, 1) := dk_4 (by decide +kernel)
theorem dX4_joined_101 : decode cX4_joined 101 = .ok (.goto 4, 3) := dk_167 (by decide +kernel)
theorem dX4_joined_105 : decode cX4_joined 105 = .ok (.ireturn, 1) := dk_172 (by decide +kernel)
theorem dX4_joined_96 : decode cX4_joined 96 = .ok (.iload_n 2, 1) := dk_28 (by decide +kernel)
theorem dX4_joined_97 : decode cX4_joined 97 = .ok (.ifCond .eq 7, 3) := dk_153 (by decide +kernel)
theorem dX4_joined_104 : decode cX4_joined 104 = .ok (.iconst 0, 1) := dk_3 (by decide +kernel)
theorem dX4_joined_189 : decode cX4_joined 189 = .ok (.iload_n 1, 1) := dk_27 (by decide +kernel)
theorem dX4_joined_190 : decode cX4_joined 190 = .ok (.ifCond .ne 7, 3) := dk_154 (by decide +kernel)
theorem dX4_joined_197 : decode cX4_joined 197 = .ok (.iconst 0, 1) := dk_3 (by decide +kernel)
theorem dX4_joined_198 : decode cX4_joined 198 = .ok (.ireturn, 1) := dk_172 (by decide +kernel)
theorem dX4_joined_193 : decode cX4_joined 193 = .ok (.iconst 1, 1) := dk_4 (by decide +kernel)
theorem dX4_joined_194 : decode cX4_joined 194 = .ok (.goto 4, 3) := dk_167 (by decide +kernel)
set_option maxRecDepth 100000 in
set_option maxHeartbeats 8000000 in
theorem x_X4_joined (l : Launch) (D : va_G) (y : wY) (ad : Nat → Nat) (i0 : Int32) (i1 : Int32) (i2 : Int32) (M : Mem) (K : Int32 → Mem → Prop) (h : wp_X4_joined i0 i1 i2 M K) : MI l D y ad yX4_joined (Cond.code yX4_joined cX4_joined 3 (some .int)) 0 M [.int i0, .int i1, .int i2] K := by
  refine MI_of (by decide) (Nat.le_of_ble_eq_true rfl) ?_
  intro p e s m args below meth c X hr hlocks
  delta wp_X4_joined at h
  refine j_lv (lv1 := [(0, .int i0), (1, .int i1), (2, .int i2)]) [0, 1, 2] rfl ?_
  refine j_iload_n X 0 rfl rfl dX4_joined_0 ?_
  by_cases w_1 : i0 = 37
  · replace h := h.1 w_1
    refine j_lsw X 177 (by decide) (off := 176) (by rw [w_1]; decide) (by decide) dX4_joined_1 ?_
    refine j_iload_n X 2 rfl rfl dX4_joined_177 ?_
    refine j_if_ne X 185 (by decide) dX4_joined_178 (fun q_2 => ?_) (fun q_2 => ?_)
    · replace h := h.1 q_2
      refine j_iload_n X 1 rfl rfl dX4_joined_185 ?_
      refine j_iload_n X 2 rfl rfl dX4_joined_186 ?_
      obtain ⟨hn_3, h⟩ := h
      refine j_irem X hn_3 dX4_joined_187 ?_
      exact j_iret X hr hlocks dX4_joined_188 h
    · replace h := h.2 q_2
      refine j_iconst X (v := 0) (by decide) dX4_joined_181 ?_
      refine j_goto X 188 (by decide) dX4_joined_182 ?_
      exact j_iret X hr hlocks dX4_joined_188 h
  replace h := h.2 w_1
  by_cases w_4 : i0 = 38
  · replace h := h.1 w_4
    refine j_lsw X 106 (by decide) (off := 105) (by rw [w_4]; decide) (by decide) dX4_joined_1 ?_
    refine j_iload_n X 1 rfl rfl dX4_joined_106 ?_
    refine j_if_eq X 118 (by decide) dX4_joined_107 (fun q_5 => ?_) (fun q_5 => ?_)
    · replace h := h.1 q_5
      refine j_iconst X (v := 0) (by decide) dX4_joined_118 ?_
      exact j_iret X hr hlocks dX4_joined_119 h
    · replace h := h.2 q_5
      refine j_iload_n X 2 rfl rfl dX4_joined_110 ?_
      refine j_if_eq X 118 (by decide) dX4_joined_111 (fun q_6 => ?_) (fun q_6 => ?_)
      · replace h := h.1 q_6
        refine j_iconst X (v := 0) (by decide) dX4_joined_118 ?_
        exact j_iret X hr hlocks dX4_joined_119 h
      · replace h := h.2 q_6
        refine j_iconst X (v := 1) (by decide) dX4_joined_114 ?_
        refine j_goto X 119 (by decide) dX4_joined_115 ?_
        exact j_iret X hr hlocks dX4_joined_119 h
  replace h := h.2 w_4
  by_cases w_7 : i0 = 42
  · replace h := h.1 w_7
    refine j_lsw X 161 (by decide) (off := 160) (by rw [w_7]; decide) (by decide) dX4_joined_1 ?_
    refine j_iload_n X 1 rfl rfl dX4_joined_161 ?_
    refine j_iload_n X 2 rfl rfl dX4_joined_162 ?_
    refine j_imul X dX4_joined_163 ?_
    exact j_iret X hr hlocks dX4_joined_164 h
  replace h := h.2 w_7
  by_cases w_8 : i0 = 43
  · replace h := h.1 w_8
    refine j_lsw X 153 (by decide) (off := 152) (by rw [w_8]; decide) (by decide) dX4_joined_1 ?_
    refine j_iload_n X 1 rfl rfl dX4_joined_153 ?_
    refine j_iload_n X 2 rfl rfl dX4_joined_154 ?_
    refine j_iadd X dX4_joined_155 ?_
    exact j_iret X hr hlocks dX4_joined_156 h
  replace h := h.2 w_8
  by_cases w_9 : i0 = 45
  · replace h := h.1 w_9
    refine j_lsw X 157 (by decide) (off := 156) (by rw [w_9]; decide) (by decide) dX4_joined_1 ?_
    refine j_iload_n X 1 rfl rfl dX4_joined_157 ?_
    refine j_iload_n X 2 rfl rfl dX4_joined_158 ?_
    refine j_isub X dX4_joined_159 ?_
    exact j_iret X hr hlocks dX4_joined_160 h
  replace h := h.2 w_9
  by_cases w_10 : i0 = 47
  · replace h := h.1 w_10
    refine j_lsw X 165 (by decide) (off := 164) (by rw [w_10]; decide) (by decide) dX4_joined_1 ?_
    refine j_iload_n X 2 rfl rfl dX4_joined_165 ?_
    refine j_if_ne X 173 (by decide) dX4_joined_166 (fun q_11 => ?_) (fun q_11 => ?_)
    · replace h := h.1 q_11
      refine j_iload_n X 1 rfl rfl dX4_joined_173 ?_
      refine j_iload_n X 2 rfl rfl dX4_joined_174 ?_
      obtain ⟨hn_12, h⟩ := h
      refine j_idiv X hn_12 dX4_joined_175 ?_
      exact j_iret X hr hlocks dX4_joined_176 h
    · replace h := h.2 q_11
      refine j_iconst X (v := 0) (by decide) dX4_joined_169 ?_
      refine j_goto X 176 (by decide) dX4_joined_170 ?_
      exact j_iret X hr hlocks dX4_joined_176 h
  replace h := h.2 w_10
  by_cases w_13 : i0 = 60
  · replace h := h.1 w_13
    refine j_lsw X 120 (by decide) (off := 119) (by rw [w_13]; decide) (by decide) dX4_joined_1 ?_
    refine j_iload_n X 1 rfl rfl dX4_joined_120 ?_
    refine j_iload_n X 2 rfl rfl dX4_joined_121 ?_
    refine j_icmp_ge X 129 (by decide) dX4_joined_122 (fun q_14 => ?_) (fun q_14 => ?_)
    · replace h := h.1 q_14
      refine j_iconst X (v := 0) (by decide) dX4_joined_129 ?_
      exact j_iret X hr hlocks dX4_joined_130 h
    · replace h := h.2 q_14
      refine j_iconst X (v := 1) (by decide) dX4_joined_125 ?_
      refine j_goto X 130 (by decide) dX4_joined_126 ?_
      exact j_iret X hr hlocks dX4_joined_130 h
  replace h := h.2 w_13
  by_cases w_15 : i0 = 61
  · replace h := h.1 w_15
    refine j_lsw X 131 (by decide) (off := 130) (by rw [w_15]; decide) (by decide) dX4_joined_1 ?_
    refine j_iload_n X 1 rfl rfl dX4_joined_131 ?_
    refine j_iload_n X 2 rfl rfl dX4_joined_132 ?_
    refine j_icmp_ne X 140 (by decide) dX4_joined_133 (fun q_16 => ?_) (fun q_16 => ?_)
    · replace h := h.1 q_16
      refine j_iconst X (v := 0) (by decide) dX4_joined_140 ?_
      exact j_iret X hr hlocks dX4_joined_141 h
    · replace h := h.2 q_16
      refine j_iconst X (v := 1) (by decide) dX4_joined_136 ?_
      refine j_goto X 141 (by decide) dX4_joined_137 ?_
      exact j_iret X hr hlocks dX4_joined_141 h
  replace h := h.2 w_15
  by_cases w_17 : i0 = 62
  · replace h := h.1 w_17
    refine j_lsw X 142 (by decide) (off := 141) (by rw [w_17]; decide) (by decide) dX4_joined_1 ?_
    refine j_iload_n X 1 rfl rfl dX4_joined_142 ?_
    refine j_iload_n X 2 rfl rfl dX4_joined_143 ?_
    refine j_icmp_le X 151 (by decide) dX4_joined_144 (fun q_18 => ?_) (fun q_18 => ?_)
    · replace h := h.1 q_18
      refine j_iconst X (v := 0) (by decide) dX4_joined_151 ?_
      exact j_iret X hr hlocks dX4_joined_152 h
    · replace h := h.2 q_18
      refine j_iconst X (v := 1) (by decide) dX4_joined_147 ?_
      refine j_goto X 152 (by decide) dX4_joined_148 ?_
      exact j_iret X hr hlocks dX4_joined_152 h
  replace h := h.2 w_17
  by_cases w_19 : i0 = 124
  · replace h := h.1 w_19
    refine j_lsw X 92 (by decide) (off := 91) (by rw [w_19]; decide) (by decide) dX4_joined_1 ?_
    refine j_iload_n X 1 rfl rfl dX4_joined_92 ?_
    refine j_if_ne X 100 (by decide) dX4_joined_93 (fun q_20 => ?_) (fun q_20 => ?_)
    · replace h := h.1 q_20
      refine j_iconst X (v := 1) (by decide) dX4_joined_100 ?_
      refine j_goto X 105 (by decide) dX4_joined_101 ?_
      exact j_iret X hr hlocks dX4_joined_105 h
    · replace h := h.2 q_20
      refine j_iload_n X 2 rfl rfl dX4_joined_96 ?_
      refine j_if_eq X 104 (by decide) dX4_joined_97 (fun q_21 => ?_) (fun q_21 => ?_)
      · replace h := h.1 q_21
        refine j_iconst X (v := 0) (by decide) dX4_joined_104 ?_
        exact j_iret X hr hlocks dX4_joined_105 h
      · replace h := h.2 q_21
        refine j_iconst X (v := 1) (by decide) dX4_joined_100 ?_
        refine j_goto X 105 (by decide) dX4_joined_101 ?_
        exact j_iret X hr hlocks dX4_joined_105 h
  replace h := h.2 w_19
  have qw_1 := ti_ne (n := 37) (by decide) w_1
  have qw_4 := ti_ne (n := 38) (by decide) w_4
  have qw_7 := ti_ne (n := 42) (by decide) w_7
  have qw_8 := ti_ne (n := 43) (by decide) w_8
  have qw_9 := ti_ne (n := 45) (by decide) w_9
  have qw_10 := ti_ne (n := 47) (by decide) w_10
  have qw_13 := ti_ne (n := 60) (by decide) w_13
  have qw_15 := ti_ne (n := 61) (by decide) w_15
  have qw_17 := ti_ne (n := 62) (by decide) w_17
  have qw_19 := ti_ne (n := 124) (by decide) w_19
  refine j_lsw X 189 (by decide) (off := 188) (by simp [Op.lookupswitch.offset, qw_1, Ne.symm qw_1, qw_4, Ne.symm qw_4, qw_7, Ne.symm qw_7, qw_8, Ne.symm qw_8, qw_9, Ne.symm qw_9, qw_10, Ne.symm qw_10, qw_13, Ne.symm qw_13, qw_15, Ne.symm qw_15, qw_17, Ne.symm qw_17, qw_19, Ne.symm qw_19]) (by decide) dX4_joined_1 ?_
  refine j_iload_n X 1 rfl rfl dX4_joined_189 ?_
  refine j_if_ne X 197 (by decide) dX4_joined_190 (fun q_22 => ?_) (fun q_22 => ?_)
  · replace h := h.1 q_22
    refine j_iconst X (v := 0) (by decide) dX4_joined_197 ?_
    exact j_iret X hr hlocks dX4_joined_198 h
  · replace h := h.2 q_22
    refine j_iconst X (v := 1) (by decide) dX4_joined_193 ?_
    refine j_goto X 198 (by decide) dX4_joined_194 ?_
    exact j_iret X hr hlocks dX4_joined_198 h
theorem dX4_workedOut_3 : decode cX4_workedOut 3 = .ok (.iload 4, 2) := dk_21 (by decide +kernel)
theorem dX4_workedOut_5 : decode cX4_workedOut 5 = .ok (.aload_n 0, 1) := dk_42 (by decide +kernel)
theorem dX4_workedOut_6 : decode cX4_workedOut 6 = .ok (.getfield 28, 3) := dk_180 (by decide +kernel)
theorem dX4_workedOut_9 : decode cX4_workedOut 9 = .ok (.if_icmp .ge 120, 3) := dk_162 (by decide +kernel)
theorem dX4_workedOut_129 : decode cX4_workedOut 129 = .ok (.aload_n 0, 1) := dk_42 (by decide +kernel)
theorem dX4_workedOut_130 : decode cX4_workedOut 130 = .ok (.getfield 21, 3) := dk_180 (by decide +kernel)
theorem dX4_workedOut_133 : decode cX4_workedOut 133 = .ok (.aload_n 0, 1) := dk_42 (by decide +kernel)
theorem dX4_workedOut_134 : decode cX4_workedOut 134 = .ok (.getfield 28, 3) := dk_180 (by decide +kernel)
theorem dX4_workedOut_137 : decode cX4_workedOut 137 = .ok (.iconst 1, 1) := dk_4 (by decide +kernel)
theorem dX4_workedOut_138 : decode cX4_workedOut 138 = .ok (.isub, 1) := dk_100 (by decide +kernel)
theorem dX4_workedOut_139 : decode cX4_workedOut 139 = .ok (.iaload, 1) := dk_46 (by decide +kernel)
theorem dX4_workedOut_140 : decode cX4_workedOut 140 = .ok (.ireturn, 1) := dk_172 (by decide +kernel)
theorem dX4_workedOut_12 : decode cX4_workedOut 12 = .ok (.aload_n 0, 1) := dk_42 (by decide +kernel)
theorem dX4_workedOut_13 : decode cX4_workedOut 13 = .ok (.getfield 15, 3) := dk_180 (by decide +kernel)
theorem dX4_workedOut_16 : decode cX4_workedOut 16 = .ok (.iload 4, 2) := dk_21 (by decide +kernel)
theorem dX4_workedOut_18 : decode cX4_workedOut 18 = .ok (.iaload, 1) := dk_46 (by decide +kernel)
theorem dX4_workedOut_19 : decode cX4_workedOut 19 = .ok (.istore 5, 2) := dk_54 (by decide +kernel)
theorem dX4_workedOut_21 : decode cX4_workedOut 21 = .ok (.aload_n 0, 1) := dk_42 (by decide +kernel)
theorem dX4_workedOut_22 : decode cX4_workedOut 22 = .ok (.getfield 9, 3) := dk_180 (by decide +kernel)
theorem dX4_workedOut_25 : decode cX4_workedOut 25 = .ok (.iload 4, 2) := dk_21 (by decide +kernel)
theorem dX4_workedOut_27 : decode cX4_workedOut 27 = .ok (.iaload, 1) := dk_46 (by decide +kernel)
theorem dX4_workedOut_28 : decode cX4_workedOut 28 = .ok (.bipush 48, 2) := dk_16 (by decide +kernel)
theorem dX4_workedOut_30 : decode cX4_workedOut 30 = .ok (.if_icmp .ne 15, 3) := dk_160 (by decide +kernel)
theorem dX4_workedOut_45 : decode cX4_workedOut 45 = .ok (.aload_n 0, 1) := dk_42 (by decide +kernel)
theorem dX4_workedOut_46 : decode cX4_workedOut 46 = .ok (.getfield 9, 3) := dk_180 (by decide +kernel)
theorem dX4_workedOut_49 : decode cX4_workedOut 49 = .ok (.iload 4, 2) := dk_21 (by decide +kernel)
theorem dX4_workedOut_51 : decode cX4_workedOut 51 = .ok (.iaload, 1) := dk_46 (by decide +kernel)
theorem dX4_workedOut_52 : decode cX4_workedOut 52 = .ok (.bipush 110, 2) := dk_16 (by decide +kernel)
theorem dX4_workedOut_54 : decode cX4_workedOut 54 = .ok (.if_icmp .ne 33, 3) := dk_160 (by decide +kernel)
theorem dX4_workedOut_87 : decode cX4_workedOut 87 = .ok (.aload_n 0, 1) := dk_42 (by decide +kernel)
theorem dX4_workedOut_88 : decode cX4_workedOut 88 = .ok (.getfield 21, 3) := dk_180 (by decide +kernel)
theorem dX4_workedOut_91 : decode cX4_workedOut 91 = .ok (.iload 4, 2) := dk_21 (by decide +kernel)
theorem dX4_workedOut_93 : decode cX4_workedOut 93 = .ok (.aload_n 0, 1) := dk_42 (by decide +kernel)
theorem dX4_workedOut_94 : decode cX4_workedOut 94 = .ok (.getfield 9, 3) := dk_180 (by decide +kernel)
theorem dX4_workedOut_97 : decode cX4_workedOut 97 = .ok (.iload 4, 2) := dk_21 (by decide +kernel)
theorem dX4_workedOut_99 : decode cX4_workedOut 99 = .ok (.iaload, 1) := dk_46 (by decide +kernel)
theorem dX4_workedOut_100 : decode cX4_workedOut 100 = .ok (.aload_n 0, 1) := dk_42 (by decide +kernel)
theorem dX4_workedOut_101 : decode cX4_workedOut 101 = .ok (.getfield 21, 3) := dk_180 (by decide +kernel)
theorem dX4_workedOut_104 : decode cX4_workedOut 104 = .ok (.iload 5, 2) := dk_21 (by decide +kernel)
theorem dX4_workedOut_106 : decode cX4_workedOut 106 = .ok (.iaload, 1) := dk_46 (by decide +kernel)
theorem dX4_workedOut_107 : decode cX4_workedOut 107 = .ok (.aload_n 0, 1) := dk_42 (by decide +kernel)
theorem dX4_workedOut_108 : decode cX4_workedOut 108 = .ok (.getfield 21, 3) := dk_180 (by decide +kernel)
theorem dX4_workedOut_111 : decode cX4_workedOut 111 = .ok (.aload_n 0, 1) := dk_42 (by decide +kernel)
theorem dX4_workedOut_112 : decode cX4_workedOut 112 = .ok (.getfield 18, 3) := dk_180 (by decide +kernel)
theorem dX4_workedOut_115 : decode cX4_workedOut 115 = .ok (.iload 4, 2) := dk_21 (by decide +kernel)
theorem dX4_workedOut_117 : decode cX4_workedOut 117 = .ok (.iaload, 1) := dk_46 (by decide +kernel)
theorem dX4_workedOut_118 : decode cX4_workedOut 118 = .ok (.iaload, 1) := dk_46 (by decide +kernel)
theorem dX4_workedOut_119 : decode cX4_workedOut 119 = .ok (.invokestatic 50, 3) := dk_184 (by decide +kernel)
theorem dX4_workedOut_122 : decode cX4_workedOut 122 = .ok (.iastore, 1) := dk_79 (by decide +kernel)
theorem dX4_workedOut_123 : decode cX4_workedOut 123 = .ok (.iinc 4 1, 3) := dk_132 (by decide +kernel)
theorem dX4_workedOut_126 : decode cX4_workedOut 126 = .ok (.goto (-123), 3) := dk_167 (by decide +kernel)
theorem dX4_workedOut_57 : decode cX4_workedOut 57 = .ok (.aload_n 0, 1) := dk_42 (by decide +kernel)
theorem dX4_workedOut_58 : decode cX4_workedOut 58 = .ok (.getfield 21, 3) := dk_180 (by decide +kernel)
theorem dX4_workedOut_61 : decode cX4_workedOut 61 = .ok (.iload 4, 2) := dk_21 (by decide +kernel)
theorem dX4_workedOut_63 : decode cX4_workedOut 63 = .ok (.iload 5, 2) := dk_21 (by decide +kernel)
theorem dX4_workedOut_65 : decode cX4_workedOut 65 = .ok (.ifCond .ne 7, 3) := dk_154 (by decide +kernel)
theorem dX4_workedOut_72 : decode cX4_workedOut 72 = .ok (.iload 5, 2) := dk_21 (by decide +kernel)
theorem dX4_workedOut_74 : decode cX4_workedOut 74 = .ok (.iconst 1, 1) := dk_4 (by decide +kernel)
theorem dX4_workedOut_75 : decode cX4_workedOut 75 = .ok (.if_icmp .ne 7, 3) := dk_160 (by decide +kernel)
theorem dX4_workedOut_82 : decode cX4_workedOut 82 = .ok (.iload_n 3, 1) := dk_29 (by decide +kernel)
theorem dX4_workedOut_83 : decode cX4_workedOut 83 = .ok (.iastore, 1) := dk_79 (by decide +kernel)
theorem dX4_workedOut_84 : decode cX4_workedOut 84 = .ok (.goto 39, 3) := dk_167 (by decide +kernel)
theorem dX4_workedOut_78 : decode cX4_workedOut 78 = .ok (.iload_n 2, 1) := dk_28 (by decide +kernel)
theorem dX4_workedOut_79 : decode cX4_workedOut 79 = .ok (.goto 4, 3) := dk_167 (by decide +kernel)
theorem dX4_workedOut_68 : decode cX4_workedOut 68 = .ok (.iload_n 1, 1) := dk_27 (by decide +kernel)
theorem dX4_workedOut_69 : decode cX4_workedOut 69 = .ok (.goto 14, 3) := dk_167 (by decide +kernel)
theorem dX4_workedOut_33 : decode cX4_workedOut 33 = .ok (.aload_n 0, 1) := dk_42 (by decide +kernel)
theorem dX4_workedOut_34 : decode cX4_workedOut 34 = .ok (.getfield 21, 3) := dk_180 (by decide +kernel)
theorem dX4_workedOut_37 : decode cX4_workedOut 37 = .ok (.iload 4, 2) := dk_21 (by decide +kernel)
theorem dX4_workedOut_39 : decode cX4_workedOut 39 = .ok (.iload 5, 2) := dk_21 (by decide +kernel)
theorem dX4_workedOut_41 : decode cX4_workedOut 41 = .ok (.iastore, 1) := dk_79 (by decide +kernel)
theorem dX4_workedOut_42 : decode cX4_workedOut 42 = .ok (.goto 81, 3) := dk_167 (by decide +kernel)
theorem dX4_workedOut_0 : decode cX4_workedOut 0 = .ok (.iconst 0, 1) := dk_3 (by decide +kernel)
theorem dX4_workedOut_1 : decode cX4_workedOut 1 = .ok (.istore 4, 2) := dk_54 (by decide +kernel)
set_option maxRecDepth 100000 in
set_option maxHeartbeats 8000000 in
theorem x_X4_workedOut (l : Launch) (D : va_G) (y : wY) (ad : Nat → Nat) (x0 : Nat) (i1 : Int32) (i2 : Int32) (i3 : Int32) (hx0 : Cl x0 4) (M : Mem) (K : Int32 → Mem → Prop) (h : wp_X4_workedOut x0 i1 i2 i3 M K) : MI l D y ad yX4_workedOut (Cond.code yX4_workedOut cX4_workedOut 6 (some .int)) 1 M [.ref (ad x0), .int i1, .int i2, .int i3] K := by
  refine MI_of (by decide) (Nat.le_of_ble_eq_true rfl) ?_
  intro p e s m args below meth c X hr hlocks
  have hL3 : ∀ (x0 : Nat) (i1 : Int32) (i2 : Int32) (i3 : Int32) (hx0 : Cl x0 4) (n : Nat) (i4 : Int32) (Mb : Mem), wp_X4_workedOut_L3 K x0 i1 i2 i3 n i4 Mb → J p l e (rmN 1) s m args below meth c 0 0 (QI K D y ad M s args below) D y ad (va_A (PL y ad M) s.heap.size) 6 Mb 3 [(0, .ref (ad x0)), (1, .int i1), (2, .int i2), (3, .int i3), (4, .int i4)] [] := by
    intro x0 i1 i2 i3 hx0 n
    induction n with
    | zero => intro i4 Mb h; exact False.elim h
    | succ n hB3 =>
      intro i4 Mb h
      replace h : wp_X4_workedOut_l3 K x0 i1 i2 i3 (wp_X4_workedOut_L3 K x0 i1 i2 i3 n) i4 Mb := h
      delta wp_X4_workedOut_l3 at h
      refine j_iload X 4 rfl dX4_workedOut_3 ?_
      refine j_aload_n X 0 rfl rfl dX4_workedOut_5 ?_
      refine j_get X hx0.1 (wE_4 _ hx0.2) rfl awF4 5 (by decide) aw_73 rfl (v := .int (Mb x0 5)) rfl dX4_workedOut_6 ?_
      refine j_icmp_ge X 129 (by decide) dX4_workedOut_9 (fun q_301 => ?_) (fun q_301 => ?_)
      · replace h := h.1 q_301
        refine j_aload_n X 0 rfl rfl dX4_workedOut_129 ?_
        refine j_get X hx0.1 (wE_4 _ hx0.2) rfl awF4 3 (by decide) aw_55 rfl (v := .ref (ad (rf x0 3))) rfl dX4_workedOut_130 ?_
        have hk_302 := kf_4_3 hx0
        refine j_aload_n X 0 rfl rfl dX4_workedOut_133 ?_
        refine j_get X hx0.1 (wE_4 _ hx0.2) rfl awF4 5 (by decide) aw_73 rfl (v := .int (Mb x0 5)) rfl dX4_workedOut_134 ?_
        refine j_iconst X (v := 1) (by decide) dX4_workedOut_137 ?_
        refine j_isub X dX4_workedOut_138 ?_
        obtain ⟨hi_303, h⟩ := h
        refine j_iald X hk_302.1 hk_302.2 hi_303 dX4_workedOut_139 ?_
        exact j_iret X hr hlocks dX4_workedOut_140 h
      · replace h := h.2 q_301
        refine j_aload_n X 0 rfl rfl dX4_workedOut_12 ?_
        refine j_get X hx0.1 (wE_4 _ hx0.2) rfl awF4 1 (by decide) aw_53 rfl (v := .ref (ad (rf x0 1))) rfl dX4_workedOut_13 ?_
        have hk_304 := kf_4_1 hx0
        refine j_iload X 4 rfl dX4_workedOut_16 ?_
        obtain ⟨hi_305, h⟩ := h
        refine j_iald X hk_304.1 hk_304.2 hi_305 dX4_workedOut_18 ?_
        refine j_istore X [(5, .int (Mb (rf x0 1) i4.toNatClampNeg)), (0, .ref (ad x0)), (1, .int i1), (2, .int i2), (3, .int i3), (4, .int i4)] (by decide) rfl dX4_workedOut_19 ?_
        refine j_aload_n X 1 rfl rfl dX4_workedOut_21 ?_
        refine j_get X hx0.1 (wE_4 _ hx0.2) rfl awF4 0 (by decide) aw_52 rfl (v := .ref (ad (rf x0 0))) rfl dX4_workedOut_22 ?_
        have hk_306 := kf_4_0 hx0
        refine j_iload X 5 rfl dX4_workedOut_25 ?_
        obtain ⟨hi_307, h⟩ := h
        refine j_iald X hk_306.1 hk_306.2 hi_307 dX4_workedOut_27 ?_
        refine j_bipush X (v := 48) (by decide) dX4_workedOut_28 ?_
        refine j_icmp_ne X 45 (by decide) dX4_workedOut_30 (fun q_308 => ?_) (fun q_308 => ?_)
        · replace h := h.1 q_308
          refine j_aload_n X 1 rfl rfl dX4_workedOut_45 ?_
          refine j_get X hx0.1 (wE_4 _ hx0.2) rfl awF4 0 (by decide) aw_52 rfl (v := .ref (ad (rf x0 0))) rfl dX4_workedOut_46 ?_
          refine j_iload X 5 rfl dX4_workedOut_49 ?_
          obtain ⟨hi_309, h⟩ := h
          refine j_iald X hk_306.1 hk_306.2 hi_309 dX4_workedOut_51 ?_
          refine j_bipush X (v := 110) (by decide) dX4_workedOut_52 ?_
          refine j_icmp_ne X 87 (by decide) dX4_workedOut_54 (fun q_310 => ?_) (fun q_310 => ?_)
          · replace h := h.1 q_310
            refine j_aload_n X 1 rfl rfl dX4_workedOut_87 ?_
            refine j_get X hx0.1 (wE_4 _ hx0.2) rfl awF4 3 (by decide) aw_55 rfl (v := .ref (ad (rf x0 3))) rfl dX4_workedOut_88 ?_
            have hk_311 := kf_4_3 hx0
            refine j_iload X 5 rfl dX4_workedOut_91 ?_
            refine j_aload_n X 1 rfl rfl dX4_workedOut_93 ?_
            refine j_get X hx0.1 (wE_4 _ hx0.2) rfl awF4 0 (by decide) aw_52 rfl (v := .ref (ad (rf x0 0))) rfl dX4_workedOut_94 ?_
            refine j_iload X 5 rfl dX4_workedOut_97 ?_
            obtain ⟨hi_312, h⟩ := h
            refine j_iald X hk_306.1 hk_306.2 hi_312 dX4_workedOut_99 ?_
            refine j_aload_n X 1 rfl rfl dX4_workedOut_100 ?_
            refine j_get X hx0.1 (wE_4 _ hx0.2) rfl awF4 3 (by decide) aw_55 rfl (v := .ref (ad (rf x0 3))) rfl dX4_workedOut_101 ?_
            refine j_iload X 0 rfl dX4_workedOut_104 ?_
            obtain ⟨hi_313, h⟩ := h
            refine j_iald X hk_311.1 hk_311.2 hi_313 dX4_workedOut_106 ?_
            refine j_aload_n X 1 rfl rfl dX4_workedOut_107 ?_
            refine j_get X hx0.1 (wE_4 _ hx0.2) rfl awF4 3 (by decide) aw_55 rfl (v := .ref (ad (rf x0 3))) rfl dX4_workedOut_108 ?_
            refine j_aload_n X 1 rfl rfl dX4_workedOut_111 ?_
            refine j_get X hx0.1 (wE_4 _ hx0.2) rfl awF4 2 (by decide) aw_54 rfl (v := .ref (ad (rf x0 2))) rfl dX4_workedOut_112 ?_
            have hk_314 := kf_4_2 hx0
            refine j_iload X 5 rfl dX4_workedOut_115 ?_
            obtain ⟨hi_315, h⟩ := h
            refine j_iald X hk_314.1 hk_314.2 hi_315 dX4_workedOut_117 ?_
            obtain ⟨hi_316, h⟩ := h
            refine j_iald X hk_311.1 hk_311.2 hi_316 dX4_workedOut_118 ?_
            refine j_callSI X (nn := 3) (As := [.int (Mb (rf x0 0) i4.toNatClampNeg), .int (Mb (rf x0 3) (Mb (rf x0 1) i4.toNatClampNeg).toNatClampNeg), .int (Mb (rf x0 3) (Mb (rf x0 2) i4.toNatClampNeg).toNatClampNeg)]) (st := [.int i4, .ref (ad (rf x0 3))]) aw_213 (x_X4_joined l D y ad (Mb (rf x0 0) i4.toNatClampNeg) (Mb (rf x0 3) (Mb (rf x0 1) i4.toNatClampNeg).toNatClampNeg) (Mb (rf x0 3) (Mb (rf x0 2) i4.toNatClampNeg).toNatClampNeg) _ _ h) aw_212 aw_214 aw_41 (by decide +kernel) ⟨Nat.le_of_ble_eq_true rfl, Nat.le_of_ble_eq_true rfl⟩ rfl (Nat.le_of_ble_eq_true rfl) ⟨Nat.le_of_ble_eq_true rfl, Nat.le_of_ble_eq_true rfl⟩ dX4_workedOut_119 ?_
            intro r317 M317 h
            obtain ⟨hi_318, h⟩ := h
            refine j_iast X hk_311.1 hk_311.2 hi_318 dX4_workedOut_122 ?_
            refine j_iinc X (v := (i4 + 1)) 5 [(4, .int (i4 + 1)), (5, .int (Mb (rf x0 1) i4.toNatClampNeg)), (0, .ref (ad x0)), (1, .int i1), (2, .int i2), (3, .int i3)] rfl rfl (by decide) rfl dX4_workedOut_123 ?_
            refine j_goto X 3 (by decide) dX4_workedOut_126 ?_
            refine j_lv (lv1 := [(0, .ref (ad x0)), (1, .int i1), (2, .int i2), (3, .int i3), (4, .int (i4 + 1))]) [2, 3, 4, 5, 0] rfl ?_
            exact hB3 _ _ h
          · replace h := h.2 q_310
            refine j_aload_n X 1 rfl rfl dX4_workedOut_57 ?_
            refine j_get X hx0.1 (wE_4 _ hx0.2) rfl awF4 3 (by decide) aw_55 rfl (v := .ref (ad (rf x0 3))) rfl dX4_workedOut_58 ?_
            have hk_319 := kf_4_3 hx0
            refine j_iload X 5 rfl dX4_workedOut_61 ?_
            refine j_iload X 0 rfl dX4_workedOut_63 ?_
            refine j_if_ne X 72 (by decide) dX4_workedOut_65 (fun q_320 => ?_) (fun q_320 => ?_)
            · replace h := h.1 q_320
              refine j_iload X 0 rfl dX4_workedOut_72 ?_
              refine j_iconst X (v := 1) (by decide) dX4_workedOut_74 ?_
              refine j_icmp_ne X 82 (by decide) dX4_workedOut_75 (fun q_321 => ?_) (fun q_321 => ?_)
              · replace h := h.1 q_321
                refine j_iload_n X 4 rfl rfl dX4_workedOut_82 ?_
                obtain ⟨hi_322, h⟩ := h
                refine j_iast X hk_319.1 hk_319.2 hi_322 dX4_workedOut_83 ?_
                refine j_goto X 123 (by decide) dX4_workedOut_84 ?_
                refine j_iinc X (v := (i4 + 1)) 5 [(4, .int (i4 + 1)), (5, .int (Mb (rf x0 1) i4.toNatClampNeg)), (0, .ref (ad x0)), (1, .int i1), (2, .int i2), (3, .int i3)] rfl rfl (by decide) rfl dX4_workedOut_123 ?_
                refine j_goto X 3 (by decide) dX4_workedOut_126 ?_
                refine j_lv (lv1 := [(0, .ref (ad x0)), (1, .int i1), (2, .int i2), (3, .int i3), (4, .int (i4 + 1))]) [2, 3, 4, 5, 0] rfl ?_
                exact hB3 _ _ h
              · replace h := h.2 q_321
                refine j_iload_n X 3 rfl rfl dX4_workedOut_78 ?_
                refine j_goto X 83 (by decide) dX4_workedOut_79 ?_
                obtain ⟨hi_323, h⟩ := h
                refine j_iast X hk_319.1 hk_319.2 hi_323 dX4_workedOut_83 ?_
                refine j_goto X 123 (by decide) dX4_workedOut_84 ?_
                refine j_iinc X (v := (i4 + 1)) 5 [(4, .int (i4 + 1)), (5, .int (Mb (rf x0 1) i4.toNatClampNeg)), (0, .ref (ad x0)), (1, .int i1), (2, .int i2), (3, .int i3)] rfl rfl (by decide) rfl dX4_workedOut_123 ?_
                refine j_goto X 3 (by decide) dX4_workedOut_126 ?_
                refine j_lv (lv1 := [(0, .ref (ad x0)), (1, .int i1), (2, .int i2), (3, .int i3), (4, .int (i4 + 1))]) [2, 3, 4, 5, 0] rfl ?_
                exact hB3 _ _ h
            · replace h := h.2 q_320
              refine j_iload_n X 2 rfl rfl dX4_workedOut_68 ?_
              refine j_goto X 83 (by decide) dX4_workedOut_69 ?_
              obtain ⟨hi_324, h⟩ := h
              refine j_iast X hk_319.1 hk_319.2 hi_324 dX4_workedOut_83 ?_
              refine j_goto X 123 (by decide) dX4_workedOut_84 ?_
              refine j_iinc X (v := (i4 + 1)) 5 [(4, .int (i4 + 1)), (5, .int (Mb (rf x0 1) i4.toNatClampNeg)), (0, .ref (ad x0)), (1, .int i1), (2, .int i2), (3, .int i3)] rfl rfl (by decide) rfl dX4_workedOut_123 ?_
              refine j_goto X 3 (by decide) dX4_workedOut_126 ?_
              refine j_lv (lv1 := [(0, .ref (ad x0)), (1, .int i1), (2, .int i2), (3, .int i3), (4, .int (i4 + 1))]) [2, 3, 4, 5, 0] rfl ?_
              exact hB3 _ _ h
        · replace h := h.2 q_308
          refine j_aload_n X 1 rfl rfl dX4_workedOut_33 ?_
          refine j_get X hx0.1 (wE_4 _ hx0.2) rfl awF4 3 (by decide) aw_55 rfl (v := .ref (ad (rf x0 3))) rfl dX4_workedOut_34 ?_
          have hk_325 := kf_4_3 hx0
          refine j_iload X 5 rfl dX4_workedOut_37 ?_
          refine j_iload X 0 rfl dX4_workedOut_39 ?_
          obtain ⟨hi_326, h⟩ := h
          refine j_iast X hk_325.1 hk_325.2 hi_326 dX4_workedOut_41 ?_
          refine j_goto X 123 (by decide) dX4_workedOut_42 ?_
          refine j_iinc X (v := (i4 + 1)) 5 [(4, .int (i4 + 1)), (5, .int (Mb (rf x0 1) i4.toNatClampNeg)), (0, .ref (ad x0)), (1, .int i1), (2, .int i2), (3, .int i3)] rfl rfl (by decide) rfl dX4_workedOut_123 ?_
          refine j_goto X 3 (by decide) dX4_workedOut_126 ?_
          refine j_lv (lv1 := [(0, .ref (ad x0)), (1, .int i1), (2, .int i2), (3, .int i3), (4, .int (i4 + 1))]) [2, 3, 4, 5, 0] rfl ?_
          exact hB3 _ _ h
  delta wp_X4_workedOut at h
  refine j_lv (lv1 := [(0, .ref (ad x0)), (1, .int i1), (2, .int i2), (3, .int i3)]) [0, 1, 2, 3] rfl ?_
  refine j_iconst X (v := 0) (by decide) dX4_workedOut_0 ?_
  refine j_istore X [(4, .int 0), (0, .ref (ad x0)), (1, .int i1), (2, .int i2), (3, .int i3)] (by decide) rfl dX4_workedOut_1 ?_
  refine j_lv (lv1 := [(0, .ref (ad x0)), (1, .int i1), (2, .int i2), (3, .int i3), (4, .int 0)]) [1, 2, 3, 4, 0] rfl ?_
  obtain ⟨n3, h⟩ := h
  exact hL3 _ _ _ _ hx0  n3 _ _ h
theorem dX4_gives_0 : decode cX4_gives 0 = .ok (.aload_n 0, 1) := dk_42 (by decide +kernel)
theorem dX4_gives_1 : decode cX4_gives 1 = .ok (.getfield 28, 3) := dk_180 (by decide +kernel)
theorem dX4_gives_4 : decode cX4_gives 4 = .ok (.ifCond .le 13, 3) := dk_158 (by decide +kernel)
theorem dX4_gives_17 : decode cX4_gives 17 = .ok (.aload_n 0, 1) := dk_42 (by decide +kernel)
theorem dX4_gives_18 : decode cX4_gives 18 = .ok (.getfield 24, 3) := dk_180 (by decide +kernel)
theorem dX4_gives_21 : decode cX4_gives 21 = .ok (.ifCond .ne 8, 3) := dk_154 (by decide +kernel)
theorem dX4_gives_29 : decode cX4_gives 29 = .ok (.bipush 9, 2) := dk_16 (by decide +kernel)
theorem dX4_gives_31 : decode cX4_gives 31 = .ok (.iload_n 1, 1) := dk_27 (by decide +kernel)
theorem dX4_gives_32 : decode cX4_gives 32 = .ok (.bipush 11, 2) := dk_16 (by decide +kernel)
theorem dX4_gives_34 : decode cX4_gives 34 = .ok (.idiv, 1) := dk_108 (by decide +kernel)
theorem dX4_gives_35 : decode cX4_gives 35 = .ok (.isub, 1) := dk_100 (by decide +kernel)
theorem dX4_gives_36 : decode cX4_gives 36 = .ok (.istore 4, 2) := dk_54 (by decide +kernel)
theorem dX4_gives_38 : decode cX4_gives 38 = .ok (.iconst 0, 1) := dk_3 (by decide +kernel)
theorem dX4_gives_39 : decode cX4_gives 39 = .ok (.bipush 99, 2) := dk_16 (by decide +kernel)
theorem dX4_gives_41 : decode cX4_gives 41 = .ok (.iload 4, 2) := dk_21 (by decide +kernel)
theorem dX4_gives_43 : decode cX4_gives 43 = .ok (.invokestatic 41, 3) := dk_184 (by decide +kernel)
theorem dX4_gives_46 : decode cX4_gives 46 = .ok (.invokestatic 47, 3) := dk_184 (by decide +kernel)
theorem dX4_gives_49 : decode cX4_gives 49 = .ok (.ireturn, 1) := dk_172 (by decide +kernel)
theorem dX4_gives_24 : decode cX4_gives 24 = .ok (.bipush 20, 2) := dk_16 (by decide +kernel)
theorem dX4_gives_26 : decode cX4_gives 26 = .ok (.goto 10, 3) := dk_167 (by decide +kernel)
theorem dX4_gives_7 : decode cX4_gives 7 = .ok (.aload_n 0, 1) := dk_42 (by decide +kernel)
theorem dX4_gives_8 : decode cX4_gives 8 = .ok (.iload_n 1, 1) := dk_27 (by decide +kernel)
theorem dX4_gives_9 : decode cX4_gives 9 = .ok (.iload_n 2, 1) := dk_28 (by decide +kernel)
theorem dX4_gives_10 : decode cX4_gives 10 = .ok (.iload_n 3, 1) := dk_29 (by decide +kernel)
theorem dX4_gives_11 : decode cX4_gives 11 = .ok (.invokevirtual 37, 3) := dk_182 (by decide +kernel)
theorem dX4_gives_14 : decode cX4_gives 14 = .ok (.goto 22, 3) := dk_167 (by decide +kernel)
set_option maxRecDepth 100000 in
set_option maxHeartbeats 8000000 in
theorem x_X4_gives (l : Launch) (D : va_G) (y : wY) (ad : Nat → Nat) (x0 : Nat) (i1 : Int32) (i2 : Int32) (i3 : Int32) (hx0 : Cl x0 4) (M : Mem) (K : Int32 → Mem → Prop) (h : wp_X4_gives x0 i1 i2 i3 M K) : MI l D y ad yX4_gives (Cond.code yX4_gives cX4_gives 5 (some .int)) 2 M [.ref (ad x0), .int i1, .int i2, .int i3] K := by
  refine MI_of (by decide) (Nat.le_of_ble_eq_true rfl) ?_
  intro p e s m args below meth c X hr hlocks
  delta wp_X4_gives at h
  refine j_lv (lv1 := [(0, .ref (ad x0)), (1, .int i1), (2, .int i2), (3, .int i3)]) [0, 1, 2, 3] rfl ?_
  refine j_aload_n X 0 rfl rfl dX4_gives_0 ?_
  refine j_get X hx0.1 (wE_4 _ hx0.2) rfl awF4 5 (by decide) aw_73 rfl (v := .int (M x0 5)) rfl dX4_gives_1 ?_
  refine j_if_le X 17 (by decide) dX4_gives_4 (fun q_1 => ?_) (fun q_1 => ?_)
  · replace h := h.1 q_1
    refine j_aload_n X 0 rfl rfl dX4_gives_17 ?_
    refine j_get X hx0.1 (wE_4 _ hx0.2) rfl awF4 4 (by decide) aw_72 rfl (v := .int (M x0 4)) rfl dX4_gives_18 ?_
    refine j_if_ne X 29 (by decide) dX4_gives_21 (fun q_2 => ?_) (fun q_2 => ?_)
    · replace h := h.1 q_2
      refine j_bipush X (v := 9) (by decide) dX4_gives_29 ?_
      refine j_iload_n X 1 rfl rfl dX4_gives_31 ?_
      refine j_bipush X (v := 11) (by decide) dX4_gives_32 ?_
      refine j_idiv X (by decide) dX4_gives_34 ?_
      refine j_isub X dX4_gives_35 ?_
      refine j_istore X [(4, .int (9 - (i1 / 11))), (0, .ref (ad x0)), (1, .int i1), (2, .int i2), (3, .int i3)] (by decide) rfl dX4_gives_36 ?_
      refine j_iconst X (v := 0) (by decide) dX4_gives_38 ?_
      refine j_bipush X (v := 99) (by decide) dX4_gives_39 ?_
      refine j_iload X 0 rfl dX4_gives_41 ?_
      refine j_mmin X aw_201 aw_202 aw_203 aw_204 (Nat.le_of_ble_eq_true rfl) (Nat.le_of_ble_eq_true rfl) (by decide) (by decide) dX4_gives_43 ?_
      refine j_mmax X aw_205 aw_206 aw_203 aw_207 (Nat.le_of_ble_eq_true rfl) (Nat.le_of_ble_eq_true rfl) (by decide) (by decide) dX4_gives_46 ?_
      exact j_iret X hr hlocks dX4_gives_49 h
    · replace h := h.2 q_2
      refine j_bipush X (v := 20) (by decide) dX4_gives_24 ?_
      refine j_goto X 36 (by decide) dX4_gives_26 ?_
      refine j_istore X [(4, .int 20), (0, .ref (ad x0)), (1, .int i1), (2, .int i2), (3, .int i3)] (by decide) rfl dX4_gives_36 ?_
      refine j_iconst X (v := 0) (by decide) dX4_gives_38 ?_
      refine j_bipush X (v := 99) (by decide) dX4_gives_39 ?_
      refine j_iload X 0 rfl dX4_gives_41 ?_
      refine j_mmin X aw_201 aw_202 aw_203 aw_204 (Nat.le_of_ble_eq_true rfl) (Nat.le_of_ble_eq_true rfl) (by decide) (by decide) dX4_gives_43 ?_
      refine j_mmax X aw_205 aw_206 aw_203 aw_207 (Nat.le_of_ble_eq_true rfl) (Nat.le_of_ble_eq_true rfl) (by decide) (by decide) dX4_gives_46 ?_
      exact j_iret X hr hlocks dX4_gives_49 h
  · replace h := h.2 q_1
    refine j_aload_n X 0 rfl rfl dX4_gives_7 ?_
    refine j_iload_n X 1 rfl rfl dX4_gives_8 ?_
    refine j_iload_n X 2 rfl rfl dX4_gives_9 ?_
    refine j_iload_n X 3 rfl rfl dX4_gives_10 ?_
    refine j_callVI X (nn := 3) (As := [.int i1, .int i2, .int i3]) (st := []) (ci := 4) hx0.1 (wE_4 _ hx0.2) rfl aw_209 aw_210 (x_X4_workedOut l D y ad x0 i1 i2 i3 hx0 _ _ h) aw_208 aw_211 aw_41 (by decide +kernel) ⟨Nat.le_of_ble_eq_true rfl, Nat.le_of_ble_eq_true rfl⟩ rfl (Nat.le_of_ble_eq_true rfl) ⟨Nat.le_of_ble_eq_true rfl, Nat.le_of_ble_eq_true rfl⟩ dX4_gives_11 ?_
    intro r3 M3 h
    refine j_goto X 36 (by decide) dX4_gives_14 ?_
    refine j_istore X [(4, .int r3), (0, .ref (ad x0)), (1, .int i1), (2, .int i2), (3, .int i3)] (by decide) rfl dX4_gives_36 ?_
    refine j_iconst X (v := 0) (by decide) dX4_gives_38 ?_
    refine j_bipush X (v := 99) (by decide) dX4_gives_39 ?_
    refine j_iload X 0 rfl dX4_gives_41 ?_
    refine j_mmin X aw_201 aw_202 aw_203 aw_204 (Nat.le_of_ble_eq_true rfl) (Nat.le_of_ble_eq_true rfl) (by decide) (by decide) dX4_gives_43 ?_
    refine j_mmax X aw_205 aw_206 aw_203 aw_207 (Nat.le_of_ble_eq_true rfl) (Nat.le_of_ble_eq_true rfl) (by decide) (by decide) dX4_gives_46 ?_
    exact j_iret X hr hlocks dX4_gives_49 h
theorem dX7_isWithin_0 : decode cX7_isWithin 0 = .ok (.iload_n 0, 1) := dk_26 (by decide +kernel)
theorem dX7_isWithin_1 : decode cX7_isWithin 1 = .ok (.iload_n 1, 1) := dk_27 (by decide +kernel)
theorem dX7_isWithin_2 : decode cX7_isWithin 2 = .ok (.if_icmp .lt 12, 3) := dk_161 (by decide +kernel)
theorem dX7_isWithin_14 : decode cX7_isWithin 14 = .ok (.iconst 0, 1) := dk_3 (by decide +kernel)
theorem dX7_isWithin_15 : decode cX7_isWithin 15 = .ok (.ireturn, 1) := dk_172 (by decide +kernel)
theorem dX7_isWithin_5 : decode cX7_isWithin 5 = .ok (.iload_n 0, 1) := dk_26 (by decide +kernel)
theorem dX7_isWithin_6 : decode cX7_isWithin 6 = .ok (.iload_n 2, 1) := dk_28 (by decide +kernel)
theorem dX7_isWithin_7 : decode cX7_isWithin 7 = .ok (.if_icmp .gt 7, 3) := dk_163 (by decide +kernel)
theorem dX7_isWithin_10 : decode cX7_isWithin 10 = .ok (.iconst 1, 1) := dk_4 (by decide +kernel)
theorem dX7_isWithin_11 : decode cX7_isWithin 11 = .ok (.goto 4, 3) := dk_167 (by decide +kernel)
set_option maxRecDepth 100000 in
set_option maxHeartbeats 8000000 in
theorem x_X7_isWithin (l : Launch) (D : va_G) (y : wY) (ad : Nat → Nat) (i0 : Int32) (i1 : Int32) (i2 : Int32) (M : Mem) (K : Int32 → Mem → Prop) (h : wp_X7_isWithin i0 i1 i2 M K) : MI l D y ad yX7_isWithin (Cond.code yX7_isWithin cX7_isWithin 3 (some .boolean)) 0 M [.int i0, .int i1, .int i2] K := by
  refine MI_of (by decide) (Nat.le_of_ble_eq_true rfl) ?_
  intro p e s m args below meth c X hr hlocks
  delta wp_X7_isWithin at h
  refine j_lv (lv1 := [(0, .int i0), (1, .int i1), (2, .int i2)]) [0, 1, 2] rfl ?_
  refine j_iload_n X 0 rfl rfl dX7_isWithin_0 ?_
  refine j_iload_n X 1 rfl rfl dX7_isWithin_1 ?_
  refine j_icmp_lt X 14 (by decide) dX7_isWithin_2 (fun q_1 => ?_) (fun q_1 => ?_)
  · replace h := h.1 q_1
    refine j_iconst X (v := 0) (by decide) dX7_isWithin_14 ?_
    exact j_zret X hr hlocks (Or.inl rfl) dX7_isWithin_15 h
  · replace h := h.2 q_1
    refine j_iload_n X 0 rfl rfl dX7_isWithin_5 ?_
    refine j_iload_n X 2 rfl rfl dX7_isWithin_6 ?_
    refine j_icmp_gt X 14 (by decide) dX7_isWithin_7 (fun q_2 => ?_) (fun q_2 => ?_)
    · replace h := h.1 q_2
      refine j_iconst X (v := 0) (by decide) dX7_isWithin_14 ?_
      exact j_zret X hr hlocks (Or.inl rfl) dX7_isWithin_15 h
    · replace h := h.2 q_2
      refine j_iconst X (v := 1) (by decide) dX7_isWithin_10 ?_
      refine j_goto X 15 (by decide) dX7_isWithin_11 ?_
      exact j_zret X hr hlocks (Or.inr rfl) dX7_isWithin_15 h
theorem dX0_isFree_0 : decode cX0_isFree 0 = .ok (.aload_n 1, 1) := dk_43 (by decide +kernel)
theorem dX0_isFree_1 : decode cX0_isFree 1 = .ok (.getfield 108, 3) := dk_180 (by decide +kernel)
theorem dX0_isFree_4 : decode cX0_isFree 4 = .ok (.iconst 0, 1) := dk_3 (by decide +kernel)
theorem dX0_isFree_5 : decode cX0_isFree 5 = .ok (.aload_n 0, 1) := dk_42 (by decide +kernel)
theorem dX0_isFree_6 : decode cX0_isFree 6 = .ok (.getfield 29, 3) := dk_180 (by decide +kernel)
theorem dX0_isFree_9 : decode cX0_isFree 9 = .ok (.iconst 1, 1) := dk_4 (by decide +kernel)
theorem dX0_isFree_10 : decode cX0_isFree 10 = .ok (.isub, 1) := dk_100 (by decide +kernel)
theorem dX0_isFree_11 : decode cX0_isFree 11 = .ok (.invokestatic 111, 3) := dk_184 (by decide +kernel)
theorem dX0_isFree_14 : decode cX0_isFree 14 = .ok (.ifCond .eq 18, 3) := dk_153 (by decide +kernel)
theorem dX0_isFree_32 : decode cX0_isFree 32 = .ok (.iconst 1, 1) := dk_4 (by decide +kernel)
theorem dX0_isFree_33 : decode cX0_isFree 33 = .ok (.goto 4, 3) := dk_167 (by decide +kernel)
theorem dX0_isFree_37 : decode cX0_isFree 37 = .ok (.ireturn, 1) := dk_172 (by decide +kernel)
theorem dX0_isFree_17 : decode cX0_isFree 17 = .ok (.aload_n 0, 1) := dk_42 (by decide +kernel)
theorem dX0_isFree_18 : decode cX0_isFree 18 = .ok (.getfield 11, 3) := dk_180 (by decide +kernel)
theorem dX0_isFree_21 : decode cX0_isFree 21 = .ok (.aload_n 1, 1) := dk_43 (by decide +kernel)
theorem dX0_isFree_22 : decode cX0_isFree 22 = .ok (.getfield 108, 3) := dk_180 (by decide +kernel)
theorem dX0_isFree_25 : decode cX0_isFree 25 = .ok (.aaload, 1) := dk_50 (by decide +kernel)
theorem dX0_isFree_26 : decode cX0_isFree 26 = .ok (.getfield 61, 3) := dk_180 (by decide +kernel)
theorem dX0_isFree_29 : decode cX0_isFree 29 = .ok (.ifCond .eq 7, 3) := dk_153 (by decide +kernel)
theorem dX0_isFree_36 : decode cX0_isFree 36 = .ok (.iconst 0, 1) := dk_3 (by decide +kernel)
set_option maxRecDepth 100000 in
set_option maxHeartbeats 8000000 in
theorem x_X0_isFree (l : Launch) (D : va_G) (y : wY) (ad : Nat → Nat) (x0 : Nat) (x1 : Nat) (hx0 : Cl x0 0) (hx1 : Cl x1 1) (M : Mem) (K : Int32 → Mem → Prop) (h : wp_X0_isFree x0 x1 M K) : MI l D y ad yX0_isFree (Cond.code yX0_isFree cX0_isFree 2 (some .boolean)) 1 M [.ref (ad x0), .ref (ad x1)] K := by
  refine MI_of (by decide) (Nat.le_of_ble_eq_true rfl) ?_
  intro p e s m args below meth c X hr hlocks
  delta wp_X0_isFree at h
  refine j_lv (lv1 := [(0, .ref (ad x0)), (1, .ref (ad x1))]) [0, 1] rfl ?_
  refine j_aload_n X 1 rfl rfl dX0_isFree_0 ?_
  refine j_getN X hx1.1 (wE_1 _ hx1.2) rfl awF1 4 (by decide) (List.mem_of_getElem? (i := 9) rfl) rfl (v := .int (M x1 4)) rfl dX0_isFree_1 ?_
  refine j_iconst X (v := 0) (by decide) dX0_isFree_4 ?_
  refine j_aload_n X 0 rfl rfl dX0_isFree_5 ?_
  refine j_get X hx0.1 (wE_0 _ hx0.2) rfl awF0 3 (by decide) aw_155 rfl (v := .int (M x0 3)) rfl dX0_isFree_6 ?_
  refine j_iconst X (v := 1) (by decide) dX0_isFree_9 ?_
  refine j_isub X dX0_isFree_10 ?_
  refine j_callSNI X (nn := 3) (As := [.int (M x1 4), .int 0, .int ((M x0 3) - 1)]) (st := []) aw_110 (x_X7_isWithin l D y ad (M x1 4) 0 ((M x0 3) - 1) _ _ h) (List.mem_of_getElem? (i := 29) rfl) aw_111 aw_2 (by decide +kernel) ⟨Nat.le_of_ble_eq_true rfl, Nat.le_of_ble_eq_true rfl⟩ rfl (Nat.le_of_ble_eq_true rfl) ⟨Nat.le_of_ble_eq_true rfl, Nat.le_of_ble_eq_true rfl⟩ dX0_isFree_11 ?_
  intro r1 M1 h
  refine j_if_eq X 32 (by decide) dX0_isFree_14 (fun q_2 => ?_) (fun q_2 => ?_)
  · replace h := h.1 q_2
    refine j_iconst X (v := 1) (by decide) dX0_isFree_32 ?_
    refine j_goto X 37 (by decide) dX0_isFree_33 ?_
    exact j_zret X hr hlocks (Or.inr rfl) dX0_isFree_37 h
  · replace h := h.2 q_2
    refine j_aload_n X 0 rfl rfl dX0_isFree_17 ?_
    refine j_get X hx0.1 (wE_0 _ hx0.2) rfl awF0 2 (by decide) aw_60 rfl (v := .ref (ad (rf x0 2))) rfl dX0_isFree_18 ?_
    have hk_3 := kf_0_2 hx0
    refine j_aload_n X 1 rfl rfl dX0_isFree_21 ?_
    refine j_getN X hx1.1 (wE_1 _ hx1.2) rfl awF1 4 (by decide) (List.mem_of_getElem? (i := 9) rfl) rfl (v := .int (M1 x1 4)) rfl dX0_isFree_22 ?_
    obtain ⟨hi_4, h⟩ := h
    refine j_aald10 X hk_3.1 hk_3.2 hi_4 dX0_isFree_25 ?_
    have hk_5 := ke_10 hk_3 hi_4
    refine j_getN X hk_5.1 (wE_1 _ hk_5.2) rfl awF1 6 (by decide) (List.mem_of_getElem? (i := 13) rfl) rfl (v := .int (M1 (rf (rf x0 2) (M1 x1 4).toNatClampNeg) 6)) rfl dX0_isFree_26 ?_
    refine j_if_eq X 36 (by decide) dX0_isFree_29 (fun q_6 => ?_) (fun q_6 => ?_)
    · replace h := h.1 q_6
      refine j_iconst X (v := 0) (by decide) dX0_isFree_36 ?_
      exact j_zret X hr hlocks (Or.inl rfl) dX0_isFree_37 h
    · replace h := h.2 q_6
      refine j_iconst X (v := 1) (by decide) dX0_isFree_32 ?_
      refine j_goto X 37 (by decide) dX0_isFree_33 ?_
      exact j_zret X hr hlocks (Or.inr rfl) dX0_isFree_37 h
theorem dX1_needs_0 : decode cX1_needs 0 = .ok (.aload_n 0, 1) := dk_42 (by decide +kernel)
theorem dX1_needs_1 : decode cX1_needs 1 = .ok (.getfield 9, 3) := dk_180 (by decide +kernel)
theorem dX1_needs_4 : decode cX1_needs 4 = .ok (.tableswitch 84 1 6 #[40, 50, 53, 56, 68, 76], 40) := by decide +kernel
theorem dX1_needs_44 : decode cX1_needs 44 = .ok (.bipush 50, 2) := dk_16 (by decide +kernel)
theorem dX1_needs_46 : decode cX1_needs 46 = .ok (.iconst 2, 1) := dk_5 (by decide +kernel)
theorem dX1_needs_47 : decode cX1_needs 47 = .ok (.aload_n 0, 1) := dk_42 (by decide +kernel)
theorem dX1_needs_48 : decode cX1_needs 48 = .ok (.getfield 15, 3) := dk_180 (by decide +kernel)
theorem dX1_needs_51 : decode cX1_needs 51 = .ok (.imul, 1) := dk_104 (by decide +kernel)
theorem dX1_needs_52 : decode cX1_needs 52 = .ok (.iadd, 1) := dk_96 (by decide +kernel)
theorem dX1_needs_53 : decode cX1_needs 53 = .ok (.ireturn, 1) := dk_172 (by decide +kernel)
theorem dX1_needs_54 : decode cX1_needs 54 = .ok (.bipush 30, 2) := dk_16 (by decide +kernel)
theorem dX1_needs_56 : decode cX1_needs 56 = .ok (.ireturn, 1) := dk_172 (by decide +kernel)
theorem dX1_needs_57 : decode cX1_needs 57 = .ok (.bipush 80, 2) := dk_16 (by decide +kernel)
theorem dX1_needs_59 : decode cX1_needs 59 = .ok (.ireturn, 1) := dk_172 (by decide +kernel)
theorem dX1_needs_60 : decode cX1_needs 60 = .ok (.bipush 50, 2) := dk_16 (by decide +kernel)
theorem dX1_needs_62 : decode cX1_needs 62 = .ok (.iconst 2, 1) := dk_5 (by decide +kernel)
theorem dX1_needs_63 : decode cX1_needs 63 = .ok (.aload_n 0, 1) := dk_42 (by decide +kernel)
theorem dX1_needs_64 : decode cX1_needs 64 = .ok (.getfield 15, 3) := dk_180 (by decide +kernel)
theorem dX1_needs_67 : decode cX1_needs 67 = .ok (.imul, 1) := dk_104 (by decide +kernel)
theorem dX1_needs_68 : decode cX1_needs 68 = .ok (.iadd, 1) := dk_96 (by decide +kernel)
theorem dX1_needs_69 : decode cX1_needs 69 = .ok (.iconst 5, 1) := dk_8 (by decide +kernel)
theorem dX1_needs_70 : decode cX1_needs 70 = .ok (.iadd, 1) := dk_96 (by decide +kernel)
theorem dX1_needs_71 : decode cX1_needs 71 = .ok (.ireturn, 1) := dk_172 (by decide +kernel)
theorem dX1_needs_72 : decode cX1_needs 72 = .ok (.bipush 30, 2) := dk_16 (by decide +kernel)
theorem dX1_needs_74 : decode cX1_needs 74 = .ok (.aload_n 0, 1) := dk_42 (by decide +kernel)
theorem dX1_needs_75 : decode cX1_needs 75 = .ok (.getfield 15, 3) := dk_180 (by decide +kernel)
theorem dX1_needs_78 : decode cX1_needs 78 = .ok (.iadd, 1) := dk_96 (by decide +kernel)
theorem dX1_needs_79 : decode cX1_needs 79 = .ok (.ireturn, 1) := dk_172 (by decide +kernel)
theorem dX1_needs_80 : decode cX1_needs 80 = .ok (.bipush 80, 2) := dk_16 (by decide +kernel)
theorem dX1_needs_82 : decode cX1_needs 82 = .ok (.aload_n 0, 1) := dk_42 (by decide +kernel)
theorem dX1_needs_83 : decode cX1_needs 83 = .ok (.getfield 15, 3) := dk_180 (by decide +kernel)
theorem dX1_needs_86 : decode cX1_needs 86 = .ok (.isub, 1) := dk_100 (by decide +kernel)
theorem dX1_needs_87 : decode cX1_needs 87 = .ok (.ireturn, 1) := dk_172 (by decide +kernel)
theorem dX1_needs_88 : decode cX1_needs 88 = .ok (.bipush 50, 2) := dk_16 (by decide +kernel)
theorem dX1_needs_90 : decode cX1_needs 90 = .ok (.ireturn, 1) := dk_172 (by decide +kernel)
set_option maxRecDepth 100000 in
set_option maxHeartbeats 8000000 in
theorem x_X1_needs (l : Launch) (D : va_G) (y : wY) (ad : Nat → Nat) (x0 : Nat) (hx0 : Cl x0 1) (M : Mem) (K : Int32 → Mem → Prop) (h : wp_X1_needs x0 M K) : MI l D y ad yX1_needs (Cond.code yX1_needs cX1_needs 1 (some .int)) 0 M [.ref (ad x0)] K := by
  refine MI_of (by decide) (Nat.le_of_ble_eq_true rfl) ?_
  intro p e s m args below meth c X hr hlocks
  delta wp_X1_needs at h
  refine j_lv (lv1 := [(0, .ref (ad x0))]) [0] rfl ?_
  refine j_aload_n X 0 rfl rfl dX1_needs_0 ?_
  refine j_get X hx0.1 (wE_1 _ hx0.2) rfl awF1 0 (by decide) aw_175 rfl (v := .int (M x0 0)) rfl dX1_needs_1 ?_
  by_cases w_1 : (M x0 0) = 1
  · replace h := h.1 w_1
    refine j_tsw_in X 44 1 w_1 (by decide) (by decide) (off := 40) rfl (by decide) dX1_needs_4 ?_
    refine j_bipush X (v := 50) (by decide) dX1_needs_44 ?_
    refine j_iconst X (v := 2) (by decide) dX1_needs_46 ?_
    refine j_aload_n X 0 rfl rfl dX1_needs_47 ?_
    refine j_get X hx0.1 (wE_1 _ hx0.2) rfl awF1 1 (by decide) aw_176 rfl (v := .int (M x0 1)) rfl dX1_needs_48 ?_
    refine j_imul X dX1_needs_51 ?_
    refine j_iadd X dX1_needs_52 ?_
    exact j_iret X hr hlocks dX1_needs_53 h
  replace h := h.2 w_1
  by_cases w_2 : (M x0 0) = 2
  · replace h := h.1 w_2
    refine j_tsw_in X 54 2 w_2 (by decide) (by decide) (off := 50) rfl (by decide) dX1_needs_4 ?_
    refine j_bipush X (v := 30) (by decide) dX1_needs_54 ?_
    exact j_iret X hr hlocks dX1_needs_56 h
  replace h := h.2 w_2
  by_cases w_3 : (M x0 0) = 3
  · replace h := h.1 w_3
    refine j_tsw_in X 57 3 w_3 (by decide) (by decide) (off := 53) rfl (by decide) dX1_needs_4 ?_
    refine j_bipush X (v := 80) (by decide) dX1_needs_57 ?_
    exact j_iret X hr hlocks dX1_needs_59 h
  replace h := h.2 w_3
  by_cases w_4 : (M x0 0) = 4
  · replace h := h.1 w_4
    refine j_tsw_in X 60 4 w_4 (by decide) (by decide) (off := 56) rfl (by decide) dX1_needs_4 ?_
    refine j_bipush X (v := 50) (by decide) dX1_needs_60 ?_
    refine j_iconst X (v := 2) (by decide) dX1_needs_62 ?_
    refine j_aload_n X 0 rfl rfl dX1_needs_63 ?_
    refine j_get X hx0.1 (wE_1 _ hx0.2) rfl awF1 1 (by decide) aw_176 rfl (v := .int (M x0 1)) rfl dX1_needs_64 ?_
    refine j_imul X dX1_needs_67 ?_
    refine j_iadd X dX1_needs_68 ?_
    refine j_iconst X (v := 5) (by decide) dX1_needs_69 ?_
    refine j_iadd X dX1_needs_70 ?_
    exact j_iret X hr hlocks dX1_needs_71 h
  replace h := h.2 w_4
  by_cases w_5 : (M x0 0) = 5
  · replace h := h.1 w_5
    refine j_tsw_in X 72 5 w_5 (by decide) (by decide) (off := 68) rfl (by decide) dX1_needs_4 ?_
    refine j_bipush X (v := 30) (by decide) dX1_needs_72 ?_
    refine j_aload_n X 0 rfl rfl dX1_needs_74 ?_
    refine j_get X hx0.1 (wE_1 _ hx0.2) rfl awF1 1 (by decide) aw_176 rfl (v := .int (M x0 1)) rfl dX1_needs_75 ?_
    refine j_iadd X dX1_needs_78 ?_
    exact j_iret X hr hlocks dX1_needs_79 h
  replace h := h.2 w_5
  by_cases w_6 : (M x0 0) = 6
  · replace h := h.1 w_6
    refine j_tsw_in X 80 6 w_6 (by decide) (by decide) (off := 76) rfl (by decide) dX1_needs_4 ?_
    refine j_bipush X (v := 80) (by decide) dX1_needs_80 ?_
    refine j_aload_n X 0 rfl rfl dX1_needs_82 ?_
    refine j_get X hx0.1 (wE_1 _ hx0.2) rfl awF1 1 (by decide) aw_176 rfl (v := .int (M x0 1)) rfl dX1_needs_83 ?_
    refine j_isub X dX1_needs_86 ?_
    exact j_iret X hr hlocks dX1_needs_87 h
  replace h := h.2 w_6
  have qw_1 := ti_ne (n := 1) (by decide) w_1
  have qw_2 := ti_ne (n := 2) (by decide) w_2
  have qw_3 := ti_ne (n := 3) (by decide) w_3
  have qw_4 := ti_ne (n := 4) (by decide) w_4
  have qw_5 := ti_ne (n := 5) (by decide) w_5
  have qw_6 := ti_ne (n := 6) (by decide) w_6
  refine j_tsw_out X 88 (by omega) (by decide) dX1_needs_4 ?_
  refine j_bipush X (v := 50) (by decide) dX1_needs_88 ?_
  exact j_iret X hr hlocks dX1_needs_90 h
theorem dX0_endOrDull_54 : decode cX0_endOrDull 54 = .ok (.iload_n 1, 1) := dk_27 (by decide +kernel)
theorem dX0_endOrDull_55 : decode cX0_endOrDull 55 = .ok (.ifCond .eq 36, 3) := dk_153 (by decide +kernel)
theorem dX0_endOrDull_91 : decode cX0_endOrDull 91 = .ok (.aload_n 3, 1) := dk_45 (by decide +kernel)
theorem dX0_endOrDull_92 : decode cX0_endOrDull 92 = .ok (.iconst 0, 1) := dk_3 (by decide +kernel)
theorem dX0_endOrDull_93 : decode cX0_endOrDull 93 = .ok (.aload_n 3, 1) := dk_45 (by decide +kernel)
theorem dX0_endOrDull_94 : decode cX0_endOrDull 94 = .ok (.getfield 65, 3) := dk_180 (by decide +kernel)
theorem dX0_endOrDull_97 : decode cX0_endOrDull 97 = .ok (.aload_n 3, 1) := dk_45 (by decide +kernel)
theorem dX0_endOrDull_98 : decode cX0_endOrDull 98 = .ok (.invokevirtual 99, 3) := dk_182 (by decide +kernel)
theorem dX0_endOrDull_101 : decode cX0_endOrDull 101 = .ok (.isub, 1) := dk_100 (by decide +kernel)
theorem dX0_endOrDull_102 : decode cX0_endOrDull 102 = .ok (.invokestatic 102, 3) := dk_184 (by decide +kernel)
theorem dX0_endOrDull_105 : decode cX0_endOrDull 105 = .ok (.putfield 65, 3) := dk_181 (by decide +kernel)
theorem dX0_endOrDull_108 : decode cX0_endOrDull 108 = .ok (.aload_n 3, 1) := dk_45 (by decide +kernel)
theorem dX0_endOrDull_109 : decode cX0_endOrDull 109 = .ok (.sipush 999, 3) := dk_17 (by decide +kernel)
theorem dX0_endOrDull_112 : decode cX0_endOrDull 112 = .ok (.aload_n 3, 1) := dk_45 (by decide +kernel)
theorem dX0_endOrDull_113 : decode cX0_endOrDull 113 = .ok (.getfield 87, 3) := dk_180 (by decide +kernel)
theorem dX0_endOrDull_116 : decode cX0_endOrDull 116 = .ok (.iconst 1, 1) := dk_4 (by decide +kernel)
theorem dX0_endOrDull_117 : decode cX0_endOrDull 117 = .ok (.iadd, 1) := dk_96 (by decide +kernel)
theorem dX0_endOrDull_118 : decode cX0_endOrDull 118 = .ok (.invokestatic 72, 3) := dk_184 (by decide +kernel)
theorem dX0_endOrDull_121 : decode cX0_endOrDull 121 = .ok (.putfield 87, 3) := dk_181 (by decide +kernel)
theorem dX0_endOrDull_124 : decode cX0_endOrDull 124 = .ok (.iinc 2 1, 3) := dk_132 (by decide +kernel)
theorem dX0_endOrDull_127 : decode cX0_endOrDull 127 = .ok (.goto (-125), 3) := dk_167 (by decide +kernel)
theorem dX0_endOrDull_58 : decode cX0_endOrDull 58 = .ok (.aload_n 0, 1) := dk_42 (by decide +kernel)
theorem dX0_endOrDull_59 : decode cX0_endOrDull 59 = .ok (.ldc 78, 2) := dk_18 (by decide +kernel)
theorem dX0_endOrDull_61 : decode cX0_endOrDull 61 = .ok (.aload_n 0, 1) := dk_42 (by decide +kernel)
theorem dX0_endOrDull_62 : decode cX0_endOrDull 62 = .ok (.getfield 42, 3) := dk_180 (by decide +kernel)
theorem dX0_endOrDull_65 : decode cX0_endOrDull 65 = .ok (.aload_n 0, 1) := dk_42 (by decide +kernel)
theorem dX0_endOrDull_66 : decode cX0_endOrDull 66 = .ok (.getfield 25, 3) := dk_180 (by decide +kernel)
theorem dX0_endOrDull_69 : decode cX0_endOrDull 69 = .ok (.aload_n 3, 1) := dk_45 (by decide +kernel)
theorem dX0_endOrDull_70 : decode cX0_endOrDull 70 = .ok (.getfield 65, 3) := dk_180 (by decide +kernel)
theorem dX0_endOrDull_73 : decode cX0_endOrDull 73 = .ok (.aload_n 3, 1) := dk_45 (by decide +kernel)
theorem dX0_endOrDull_74 : decode cX0_endOrDull 74 = .ok (.getfield 87, 3) := dk_180 (by decide +kernel)
theorem dX0_endOrDull_77 : decode cX0_endOrDull 77 = .ok (.aload_n 3, 1) := dk_45 (by decide +kernel)
theorem dX0_endOrDull_78 : decode cX0_endOrDull 78 = .ok (.getfield 90, 3) := dk_180 (by decide +kernel)
theorem dX0_endOrDull_81 : decode cX0_endOrDull 81 = .ok (.invokevirtual 93, 3) := dk_182 (by decide +kernel)
theorem dX0_endOrDull_84 : decode cX0_endOrDull 84 = .ok (.iadd, 1) := dk_96 (by decide +kernel)
theorem dX0_endOrDull_85 : decode cX0_endOrDull 85 = .ok (.invokestatic 72, 3) := dk_184 (by decide +kernel)
theorem dX0_endOrDull_88 : decode cX0_endOrDull 88 = .ok (.putfield 42, 3) := dk_181 (by decide +kernel)
theorem dX0_endOrDull_2 : decode cX0_endOrDull 2 = .ok (.iload_n 2, 1) := dk_28 (by decide +kernel)
theorem dX0_endOrDull_3 : decode cX0_endOrDull 3 = .ok (.aload_n 0, 1) := dk_42 (by decide +kernel)
theorem dX0_endOrDull_4 : decode cX0_endOrDull 4 = .ok (.getfield 29, 3) := dk_180 (by decide +kernel)
theorem dX0_endOrDull_7 : decode cX0_endOrDull 7 = .ok (.if_icmp .ge 123, 3) := dk_162 (by decide +kernel)
theorem dX0_endOrDull_130 : decode cX0_endOrDull 130 = .ok (.return_, 1) := dk_177 (by decide +kernel)
theorem dX0_endOrDull_10 : decode cX0_endOrDull 10 = .ok (.aload_n 0, 1) := dk_42 (by decide +kernel)
theorem dX0_endOrDull_11 : decode cX0_endOrDull 11 = .ok (.getfield 11, 3) := dk_180 (by decide +kernel)
theorem dX0_endOrDull_14 : decode cX0_endOrDull 14 = .ok (.iload_n 2, 1) := dk_28 (by decide +kernel)
theorem dX0_endOrDull_15 : decode cX0_endOrDull 15 = .ok (.aaload, 1) := dk_50 (by decide +kernel)
theorem dX0_endOrDull_16 : decode cX0_endOrDull 16 = .ok (.astore_n 3, 1) := dk_78 (by decide +kernel)
theorem dX0_endOrDull_17 : decode cX0_endOrDull 17 = .ok (.aload_n 3, 1) := dk_45 (by decide +kernel)
theorem dX0_endOrDull_18 : decode cX0_endOrDull 18 = .ok (.getfield 61, 3) := dk_180 (by decide +kernel)
theorem dX0_endOrDull_21 : decode cX0_endOrDull 21 = .ok (.ifCond .eq 6, 3) := dk_153 (by decide +kernel)
theorem dX0_endOrDull_27 : decode cX0_endOrDull 27 = .ok (.aload_n 3, 1) := dk_45 (by decide +kernel)
theorem dX0_endOrDull_28 : decode cX0_endOrDull 28 = .ok (.getfield 65, 3) := dk_180 (by decide +kernel)
theorem dX0_endOrDull_31 : decode cX0_endOrDull 31 = .ok (.aload_n 3, 1) := dk_45 (by decide +kernel)
theorem dX0_endOrDull_32 : decode cX0_endOrDull 32 = .ok (.invokevirtual 79, 3) := dk_182 (by decide +kernel)
theorem dX0_endOrDull_35 : decode cX0_endOrDull 35 = .ok (.if_icmp .lt 19, 3) := dk_161 (by decide +kernel)
theorem dX0_endOrDull_38 : decode cX0_endOrDull 38 = .ok (.aload_n 0, 1) := dk_42 (by decide +kernel)
theorem dX0_endOrDull_39 : decode cX0_endOrDull 39 = .ok (.aload_n 3, 1) := dk_45 (by decide +kernel)
theorem dX0_endOrDull_40 : decode cX0_endOrDull 40 = .ok (.invokevirtual 83, 3) := dk_182 (by decide +kernel)
theorem dX0_endOrDull_43 : decode cX0_endOrDull 43 = .ok (.ifCond .eq 11, 3) := dk_153 (by decide +kernel)
theorem dX0_endOrDull_46 : decode cX0_endOrDull 46 = .ok (.aload_n 3, 1) := dk_45 (by decide +kernel)
theorem dX0_endOrDull_47 : decode cX0_endOrDull 47 = .ok (.iconst 1, 1) := dk_4 (by decide +kernel)
theorem dX0_endOrDull_48 : decode cX0_endOrDull 48 = .ok (.putfield 61, 3) := dk_181 (by decide +kernel)
theorem dX0_endOrDull_51 : decode cX0_endOrDull 51 = .ok (.goto 73, 3) := dk_167 (by decide +kernel)
theorem dX0_endOrDull_24 : decode cX0_endOrDull 24 = .ok (.goto 100, 3) := dk_167 (by decide +kernel)
theorem dX0_endOrDull_0 : decode cX0_endOrDull 0 = .ok (.iconst 0, 1) := dk_3 (by decide +kernel)
theorem dX0_endOrDull_1 : decode cX0_endOrDull 1 = .ok (.istore_n 2, 1) := dk_61 (by decide +kernel)
set_option maxRecDepth 100000 in
set_option maxHeartbeats 8000000 in
theorem x_X0_endOrDull (l : Launch) (D : va_G) (y : wY) (ad : Nat → Nat) (x0 : Nat) (i1 : Int32) (hx0 : Cl x0 0) (M : Mem) (K : Mem → Prop) (h : wp_X0_endOrDull x0 i1 M K) : MV l D y ad yX0_endOrDull (Cond.code yX0_endOrDull cX0_endOrDull 4 none) 3 M [.ref (ad x0), .int i1] K := by
  refine MV_of (by decide) (Nat.le_of_ble_eq_true rfl) ?_
  intro p e s m args below meth c X hr hlocks
  have hb54 : ∀ (x0 : Nat) (i1 : Int32) (i2 : Int32) (x3 : Nat) (hx0 : Cl x0 0) (hx3 : Cl x3 1) (B2 : Int32 → Mem → Prop) (hB2 : ∀ (i2' : Int32) (Mh : Mem), B2 i2' Mh → J p l e (rmN 3) s m args below meth c 0 0 (QV K D y ad M s args below) D y ad (va_A (PL y ad M) s.heap.size) 4 Mh 2 [(0, .ref (ad x0)), (1, .int i1), (2, .int i2')] []) (Mb : Mem), wp_X0_endOrDull_b54 K B2 x0 i1 i2 x3 Mb → J p l e (rmN 3) s m args below meth c 0 0 (QV K D y ad M s args below) D y ad (va_A (PL y ad M) s.heap.size) 4 Mb 54 [(0, .ref (ad x0)), (1, .int i1), (2, .int i2), (3, .ref (ad x3))] [] := by
    intro x0 i1 i2 x3 hx0 hx3 B2 hB2 Mb h
    delta wp_X0_endOrDull_b54 at h
    refine j_iload_n X 1 rfl rfl dX0_endOrDull_54 ?_
    refine j_if_eq X 91 (by decide) dX0_endOrDull_55 (fun q_5401 => ?_) (fun q_5401 => ?_)
    · replace h := h.1 q_5401
      refine j_aload_n X 3 rfl rfl dX0_endOrDull_91 ?_
      refine j_iconst X (v := 0) (by decide) dX0_endOrDull_92 ?_
      refine j_aload_n X 3 rfl rfl dX0_endOrDull_93 ?_
      refine j_getN X hx3.1 (wE_1 _ hx3.2) rfl awF1 3 (by decide) (List.mem_of_getElem? (i := 7) rfl) rfl (v := .int (Mb x3 3)) rfl dX0_endOrDull_94 ?_
      refine j_aload_n X 3 rfl rfl dX0_endOrDull_97 ?_
      refine j_callVNI X (nn := 0) (As := []) (st := [.int (Mb x3 3), .int 0, .ref (ad x3)]) (ci := 1) hx3.1 (wE_1 _ hx3.2) rfl aw_223 aw_224 (x_X1_dulls l D y ad x3 hx3 _ _ h) (List.mem_of_getElem? (i := 30) rfl) aw_225 aw_65 (by decide +kernel) ⟨Nat.le_of_ble_eq_true rfl, Nat.le_of_ble_eq_true rfl⟩ rfl (Nat.le_of_ble_eq_true rfl) ⟨Nat.le_of_ble_eq_true rfl, Nat.le_of_ble_eq_true rfl⟩ dX0_endOrDull_98 ?_
      intro r5402 M5402 h
      refine j_isub X dX0_endOrDull_101 ?_
      refine j_mmax X aw_457 aw_206 aw_203 aw_207 (Nat.le_of_ble_eq_true rfl) (Nat.le_of_ble_eq_true rfl) (by decide) (by decide) dX0_endOrDull_102 ?_
      refine j_putN X (up M5402 x3 3 (if 0 < ((Mb x3 3) - r5402) then ((Mb x3 3) - r5402) else 0)) up_o hx3.1 (wE_1 _ hx3.2) rfl awF1 3 (by decide) (wP_1_3 _ _ hx3.2) tyX1 tyX1_ok nmX1 rfl (ty := .int) (by decide +kernel) rfl rfl (Nat.le_of_ble_eq_true rfl) (List.mem_of_getElem? (i := 7) rfl) rfl dX0_endOrDull_105 ?_
      refine j_aload_n X 3 rfl rfl dX0_endOrDull_108 ?_
      refine j_sipush X (v := 999) (by decide) dX0_endOrDull_109 ?_
      refine j_aload_n X 3 rfl rfl dX0_endOrDull_112 ?_
      refine j_getN X hx3.1 (wE_1 _ hx3.2) rfl awF1 5 (by decide) (List.mem_of_getElem? (i := 11) rfl) rfl (v := .int ((up M5402 x3 3 (if 0 < ((Mb x3 3) - r5402) then ((Mb x3 3) - r5402) else 0)) x3 5)) rfl dX0_endOrDull_113 ?_
      refine j_iconst X (v := 1) (by decide) dX0_endOrDull_116 ?_
      refine j_iadd X dX0_endOrDull_117 ?_
      refine j_mmin X aw_446 aw_202 aw_203 aw_204 (Nat.le_of_ble_eq_true rfl) (Nat.le_of_ble_eq_true rfl) (by decide) (by decide) dX0_endOrDull_118 ?_
      refine j_putN X (up (up M5402 x3 3 (if 0 < ((Mb x3 3) - r5402) then ((Mb x3 3) - r5402) else 0)) x3 5 (if (((up M5402 x3 3 (if 0 < ((Mb x3 3) - r5402) then ((Mb x3 3) - r5402) else 0)) x3 5) + 1) < 999 then (((up M5402 x3 3 (if 0 < ((Mb x3 3) - r5402) then ((Mb x3 3) - r5402) else 0)) x3 5) + 1) else 999)) up_o hx3.1 (wE_1 _ hx3.2) rfl awF1 5 (by decide) (wP_1_5 _ _ hx3.2) tyX1 tyX1_ok nmX1 rfl (ty := .int) (by decide +kernel) rfl rfl (Nat.le_of_ble_eq_true rfl) (List.mem_of_getElem? (i := 11) rfl) rfl dX0_endOrDull_121 ?_
      refine j_topM (fun Mg_5403 eMg_5403 => ?_)
      replace h := h Mg_5403 eMg_5403
      refine j_iinc X (v := (i2 + 1)) 2 [(2, .int (i2 + 1)), (0, .ref (ad x0)), (1, .int i1), (3, .ref (ad x3))] rfl rfl (by decide) rfl dX0_endOrDull_124 ?_
      refine j_goto X 2 (by decide) dX0_endOrDull_127 ?_
      refine j_lv (lv1 := [(0, .ref (ad x0)), (1, .int i1), (2, .int (i2 + 1))]) [1, 2, 0] rfl ?_
      exact hB2 _ _ h
    · replace h := h.2 q_5401
      refine j_aload_n X 0 rfl rfl dX0_endOrDull_58 ?_
      refine j_ldc X (v := 99999) aw_447 dX0_endOrDull_59 ?_
      refine j_aload_n X 0 rfl rfl dX0_endOrDull_61 ?_
      refine j_get X hx0.1 (wE_0 _ hx0.2) rfl awF0 7 (by decide) aw_125 rfl (v := .int (Mb x0 7)) rfl dX0_endOrDull_62 ?_
      refine j_aload_n X 0 rfl rfl dX0_endOrDull_65 ?_
      refine j_get X hx0.1 (wE_0 _ hx0.2) rfl awF0 1 (by decide) aw_63 rfl (v := .ref (ad (rf x0 1))) rfl dX0_endOrDull_66 ?_
      have hk_5404 := kf_0_1 hx0
      refine j_aload_n X 3 rfl rfl dX0_endOrDull_69 ?_
      refine j_getN X hx3.1 (wE_1 _ hx3.2) rfl awF1 3 (by decide) (List.mem_of_getElem? (i := 7) rfl) rfl (v := .int (Mb x3 3)) rfl dX0_endOrDull_70 ?_
      refine j_aload_n X 3 rfl rfl dX0_endOrDull_73 ?_
      refine j_getN X hx3.1 (wE_1 _ hx3.2) rfl awF1 5 (by decide) (List.mem_of_getElem? (i := 11) rfl) rfl (v := .int (Mb x3 5)) rfl dX0_endOrDull_74 ?_
      refine j_aload_n X 3 rfl rfl dX0_endOrDull_77 ?_
      refine j_getN X hx3.1 (wE_1 _ hx3.2) rfl awF1 1 (by decide) (List.mem_of_getElem? (i := 3) rfl) rfl (v := .int (Mb x3 1)) rfl dX0_endOrDull_78 ?_
      refine j_callVNI X (nn := 3) (As := [.int (Mb x3 3), .int (Mb x3 5), .int (Mb x3 1)]) (st := [.int (Mb x0 7), .int 99999, .ref (ad x0)]) (ci := 4) hk_5404.1 (wE_4 _ hk_5404.2) rfl aw_198 aw_199 (x_X4_gives l D y ad (rf x0 1) (Mb x3 3) (Mb x3 5) (Mb x3 1) hk_5404 _ _ h) (List.mem_of_getElem? (i := 14) rfl) aw_200 aw_41 (by decide +kernel) ⟨Nat.le_of_ble_eq_true rfl, Nat.le_of_ble_eq_true rfl⟩ rfl (Nat.le_of_ble_eq_true rfl) ⟨Nat.le_of_ble_eq_true rfl, Nat.le_of_ble_eq_true rfl⟩ dX0_endOrDull_81 ?_
      intro r5405 M5405 h
      refine j_iadd X dX0_endOrDull_84 ?_
      refine j_mmin X aw_446 aw_202 aw_203 aw_204 (Nat.le_of_ble_eq_true rfl) (Nat.le_of_ble_eq_true rfl) (by decide) (by decide) dX0_endOrDull_85 ?_
      refine j_put X (up M5405 x0 7 (if ((Mb x0 7) + r5405) < 99999 then ((Mb x0 7) + r5405) else 99999)) up_o hx0.1 (wE_0 _ hx0.2) rfl awF0 7 (by decide) (wP_0_7 _ _ hx0.2) tyX0 tyX0_ok nmX0 rfl (ty := .int) (by decide +kernel) rfl rfl (Nat.le_of_ble_eq_true rfl) aw_125 rfl dX0_endOrDull_88 ?_
      refine j_aload_n X 3 rfl rfl dX0_endOrDull_91 ?_
      refine j_iconst X (v := 0) (by decide) dX0_endOrDull_92 ?_
      refine j_aload_n X 3 rfl rfl dX0_endOrDull_93 ?_
      refine j_getN X hx3.1 (wE_1 _ hx3.2) rfl awF1 3 (by decide) (List.mem_of_getElem? (i := 7) rfl) rfl (v := .int ((up M5405 x0 7 (if ((Mb x0 7) + r5405) < 99999 then ((Mb x0 7) + r5405) else 99999)) x3 3)) rfl dX0_endOrDull_94 ?_
      refine j_aload_n X 3 rfl rfl dX0_endOrDull_97 ?_
      refine j_callVNI X (nn := 0) (As := []) (st := [.int ((up M5405 x0 7 (if ((Mb x0 7) + r5405) < 99999 then ((Mb x0 7) + r5405) else 99999)) x3 3), .int 0, .ref (ad x3)]) (ci := 1) hx3.1 (wE_1 _ hx3.2) rfl aw_223 aw_224 (x_X1_dulls l D y ad x3 hx3 _ _ h) (List.mem_of_getElem? (i := 30) rfl) aw_225 aw_65 (by decide +kernel) ⟨Nat.le_of_ble_eq_true rfl, Nat.le_of_ble_eq_true rfl⟩ rfl (Nat.le_of_ble_eq_true rfl) ⟨Nat.le_of_ble_eq_true rfl, Nat.le_of_ble_eq_true rfl⟩ dX0_endOrDull_98 ?_
      intro r5406 M5406 h
      refine j_isub X dX0_endOrDull_101 ?_
      refine j_mmax X aw_457 aw_206 aw_203 aw_207 (Nat.le_of_ble_eq_true rfl) (Nat.le_of_ble_eq_true rfl) (by decide) (by decide) dX0_endOrDull_102 ?_
      refine j_putN X (up M5406 x3 3 (if 0 < (((up M5405 x0 7 (if ((Mb x0 7) + r5405) < 99999 then ((Mb x0 7) + r5405) else 99999)) x3 3) - r5406) then (((up M5405 x0 7 (if ((Mb x0 7) + r5405) < 99999 then ((Mb x0 7) + r5405) else 99999)) x3 3) - r5406) else 0)) up_o hx3.1 (wE_1 _ hx3.2) rfl awF1 3 (by decide) (wP_1_3 _ _ hx3.2) tyX1 tyX1_ok nmX1 rfl (ty := .int) (by decide +kernel) rfl rfl (Nat.le_of_ble_eq_true rfl) (List.mem_of_getElem? (i := 7) rfl) rfl dX0_endOrDull_105 ?_
      refine j_topM (fun Mg_5407 eMg_5407 => ?_)
      replace h := h Mg_5407 eMg_5407
      refine j_aload_n X 3 rfl rfl dX0_endOrDull_108 ?_
      refine j_sipush X (v := 999) (by decide) dX0_endOrDull_109 ?_
      refine j_aload_n X 3 rfl rfl dX0_endOrDull_112 ?_
      refine j_getN X hx3.1 (wE_1 _ hx3.2) rfl awF1 5 (by decide) (List.mem_of_getElem? (i := 11) rfl) rfl (v := .int (Mg_5407 x3 5)) rfl dX0_endOrDull_113 ?_
      refine j_iconst X (v := 1) (by decide) dX0_endOrDull_116 ?_
      refine j_iadd X dX0_endOrDull_117 ?_
      refine j_mmin X aw_446 aw_202 aw_203 aw_204 (Nat.le_of_ble_eq_true rfl) (Nat.le_of_ble_eq_true rfl) (by decide) (by decide) dX0_endOrDull_118 ?_
      refine j_putN X (up Mg_5407 x3 5 (if ((Mg_5407 x3 5) + 1) < 999 then ((Mg_5407 x3 5) + 1) else 999)) up_o hx3.1 (wE_1 _ hx3.2) rfl awF1 5 (by decide) (wP_1_5 _ _ hx3.2) tyX1 tyX1_ok nmX1 rfl (ty := .int) (by decide +kernel) rfl rfl (Nat.le_of_ble_eq_true rfl) (List.mem_of_getElem? (i := 11) rfl) rfl dX0_endOrDull_121 ?_
      refine j_iinc X (v := (i2 + 1)) 2 [(2, .int (i2 + 1)), (0, .ref (ad x0)), (1, .int i1), (3, .ref (ad x3))] rfl rfl (by decide) rfl dX0_endOrDull_124 ?_
      refine j_goto X 2 (by decide) dX0_endOrDull_127 ?_
      refine j_lv (lv1 := [(0, .ref (ad x0)), (1, .int i1), (2, .int (i2 + 1))]) [1, 2, 0] rfl ?_
      exact hB2 _ _ h
  have hL2 : ∀ (x0 : Nat) (i1 : Int32) (hx0 : Cl x0 0) (n : Nat) (i2 : Int32) (Mb : Mem), wp_X0_endOrDull_L2 K x0 i1 n i2 Mb → J p l e (rmN 3) s m args below meth c 0 0 (QV K D y ad M s args below) D y ad (va_A (PL y ad M) s.heap.size) 4 Mb 2 [(0, .ref (ad x0)), (1, .int i1), (2, .int i2)] [] := by
    intro x0 i1 hx0 n
    induction n with
    | zero => intro i2 Mb h; exact False.elim h
    | succ n hB2 =>
      intro i2 Mb h
      replace h : wp_X0_endOrDull_l2 K x0 i1 (wp_X0_endOrDull_L2 K x0 i1 n) i2 Mb := h
      delta wp_X0_endOrDull_l2 at h
      refine j_iload_n X 2 rfl rfl dX0_endOrDull_2 ?_
      refine j_aload_n X 0 rfl rfl dX0_endOrDull_3 ?_
      refine j_get X hx0.1 (wE_0 _ hx0.2) rfl awF0 3 (by decide) aw_155 rfl (v := .int (Mb x0 3)) rfl dX0_endOrDull_4 ?_
      refine j_icmp_ge X 130 (by decide) dX0_endOrDull_7 (fun q_201 => ?_) (fun q_201 => ?_)
      · replace h := h.1 q_201
        exact j_vret X hr hlocks dX0_endOrDull_130 h
      · replace h := h.2 q_201
        refine j_aload_n X 0 rfl rfl dX0_endOrDull_10 ?_
        refine j_get X hx0.1 (wE_0 _ hx0.2) rfl awF0 2 (by decide) aw_60 rfl (v := .ref (ad (rf x0 2))) rfl dX0_endOrDull_11 ?_
        have hk_202 := kf_0_2 hx0
        refine j_iload_n X 2 rfl rfl dX0_endOrDull_14 ?_
        obtain ⟨hi_203, h⟩ := h
        refine j_aald10 X hk_202.1 hk_202.2 hi_203 dX0_endOrDull_15 ?_
        have hk_204 := ke_10 hk_202 hi_203
        refine j_astore_n X [(3, .ref (ad (rf (rf x0 2) i2.toNatClampNeg))), (0, .ref (ad x0)), (1, .int i1), (2, .int i2)] rfl (by decide) rfl dX0_endOrDull_16 ?_
        refine j_aload_n X 0 rfl rfl dX0_endOrDull_17 ?_
        refine j_getN X hk_204.1 (wE_1 _ hk_204.2) rfl awF1 6 (by decide) (List.mem_of_getElem? (i := 13) rfl) rfl (v := .int (Mb (rf (rf x0 2) i2.toNatClampNeg) 6)) rfl dX0_endOrDull_18 ?_
        refine j_if_eq X 27 (by decide) dX0_endOrDull_21 (fun q_205 => ?_) (fun q_205 => ?_)
        · replace h := h.1 q_205
          refine j_aload_n X 0 rfl rfl dX0_endOrDull_27 ?_
          refine j_getN X hk_204.1 (wE_1 _ hk_204.2) rfl awF1 3 (by decide) (List.mem_of_getElem? (i := 7) rfl) rfl (v := .int (Mb (rf (rf x0 2) i2.toNatClampNeg) 3)) rfl dX0_endOrDull_28 ?_
          refine j_aload_n X 0 rfl rfl dX0_endOrDull_31 ?_
          refine j_callVNI X (nn := 0) (As := []) (st := [.int (Mb (rf (rf x0 2) i2.toNatClampNeg) 3)]) (ci := 1) hk_204.1 (wE_1 _ hk_204.2) rfl aw_220 aw_221 (x_X1_needs l D y ad (rf (rf x0 2) i2.toNatClampNeg) hk_204 _ _ h) (List.mem_of_getElem? (i := 28) rfl) aw_222 aw_65 (by decide +kernel) ⟨Nat.le_of_ble_eq_true rfl, Nat.le_of_ble_eq_true rfl⟩ rfl (Nat.le_of_ble_eq_true rfl) ⟨Nat.le_of_ble_eq_true rfl, Nat.le_of_ble_eq_true rfl⟩ dX0_endOrDull_32 ?_
          intro r206 M206 h
          refine j_icmp_lt X 54 (by decide) dX0_endOrDull_35 (fun q_207 => ?_) (fun q_207 => ?_)
          · replace h := h.1 q_207
            refine j_lv (lv1 := [(0, .ref (ad x0)), (1, .int i1), (2, .int i2), (3, .ref (ad (rf (rf x0 2) i2.toNatClampNeg)))]) [1, 2, 3, 0] rfl ?_
            exact hb54 _ _ _ _ hx0 hk_204 _ hB2 _ h
          · replace h := h.2 q_207
            refine j_aload_n X 1 rfl rfl dX0_endOrDull_38 ?_
            refine j_aload_n X 0 rfl rfl dX0_endOrDull_39 ?_
            refine j_callVI X (nn := 1) (As := [.ref (ad (rf (rf x0 2) i2.toNatClampNeg))]) (st := []) (ci := 0) hx0.1 (wE_0 _ hx0.2) rfl aw_459 aw_460 (x_X0_isFree l D y ad x0 (rf (rf x0 2) i2.toNatClampNeg) hx0 hk_204 _ _ h) aw_458 aw_461 aw_20 (by decide +kernel) ⟨Nat.le_of_ble_eq_true rfl, Nat.le_of_ble_eq_true rfl⟩ rfl (Nat.le_of_ble_eq_true rfl) ⟨Nat.le_of_ble_eq_true rfl, Nat.le_of_ble_eq_true rfl⟩ dX0_endOrDull_40 ?_
            intro r208 M208 h
            refine j_if_eq X 54 (by decide) dX0_endOrDull_43 (fun q_209 => ?_) (fun q_209 => ?_)
            · replace h := h.1 q_209
              refine j_lv (lv1 := [(0, .ref (ad x0)), (1, .int i1), (2, .int i2), (3, .ref (ad (rf (rf x0 2) i2.toNatClampNeg)))]) [1, 2, 3, 0] rfl ?_
              exact hb54 _ _ _ _ hx0 hk_204 _ hB2 _ h
            · replace h := h.2 q_209
              refine j_aload_n X 0 rfl rfl dX0_endOrDull_46 ?_
              refine j_iconst X (v := 1) (by decide) dX0_endOrDull_47 ?_
              refine j_putN X (up M208 (rf (rf x0 2) i2.toNatClampNeg) 6 1) up_o hk_204.1 (wE_1 _ hk_204.2) rfl awF1 6 (by decide) (wP_1_6 _ _ hk_204.2) tyX1 tyX1_ok nmX1 rfl (ty := .boolean) (by decide +kernel) rfl rfl (Nat.le_of_ble_eq_true rfl) (List.mem_of_getElem? (i := 13) rfl) rfl dX0_endOrDull_48 ?_
              refine j_goto X 124 (by decide) dX0_endOrDull_51 ?_
              refine j_iinc X (v := (i2 + 1)) 3 [(2, .int (i2 + 1)), (3, .ref (ad (rf (rf x0 2) i2.toNatClampNeg))), (0, .ref (ad x0)), (1, .int i1)] rfl rfl (by decide) rfl dX0_endOrDull_124 ?_
              refine j_goto X 2 (by decide) dX0_endOrDull_127 ?_
              refine j_lv (lv1 := [(0, .ref (ad x0)), (1, .int i1), (2, .int (i2 + 1))]) [2, 3, 0] rfl ?_
              exact hB2 _ _ h
        · replace h := h.2 q_205
          refine j_goto X 124 (by decide) dX0_endOrDull_24 ?_
          refine j_iinc X (v := (i2 + 1)) 3 [(2, .int (i2 + 1)), (3, .ref (ad (rf (rf x0 2) i2.toNatClampNeg))), (0, .ref (ad x0)), (1, .int i1)] rfl rfl (by decide) rfl dX0_endOrDull_124 ?_
          refine j_goto X 2 (by decide) dX0_endOrDull_127 ?_
          refine j_lv (lv1 := [(0, .ref (ad x0)), (1, .int i1), (2, .int (i2 + 1))]) [2, 3, 0] rfl ?_
          exact hB2 _ _ h
  delta wp_X0_endOrDull at h
  refine j_lv (lv1 := [(0, .ref (ad x0)), (1, .int i1)]) [0, 1] rfl ?_
  refine j_iconst X (v := 0) (by decide) dX0_endOrDull_0 ?_
  refine j_istore_n X [(2, .int 0), (0, .ref (ad x0)), (1, .int i1)] rfl (by decide) rfl dX0_endOrDull_1 ?_
  refine j_lv (lv1 := [(0, .ref (ad x0)), (1, .int i1), (2, .int 0)]) [1, 2, 0] rfl ?_
  obtain ⟨n2, h⟩ := h
  exact hL2 _ _ hx0  n2 _ _ h
