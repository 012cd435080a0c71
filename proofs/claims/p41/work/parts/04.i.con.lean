theorem dX8_in_0 : decode cX8_in 0 = .ok (.iload_n 0, 1) := dk_26 (by decide +kernel)
theorem dX8_in_1 : decode cX8_in 1 = .ok (.iload_n 1, 1) := dk_27 (by decide +kernel)
theorem dX8_in_2 : decode cX8_in 2 = .ok (.if_icmp .lt 12, 3) := dk_161 (by decide +kernel)
theorem dX8_in_14 : decode cX8_in 14 = .ok (.iconst 0, 1) := dk_3 (by decide +kernel)
theorem dX8_in_15 : decode cX8_in 15 = .ok (.ireturn, 1) := dk_172 (by decide +kernel)
theorem dX8_in_5 : decode cX8_in 5 = .ok (.iload_n 0, 1) := dk_26 (by decide +kernel)
theorem dX8_in_6 : decode cX8_in 6 = .ok (.iload_n 2, 1) := dk_28 (by decide +kernel)
theorem dX8_in_7 : decode cX8_in 7 = .ok (.if_icmp .gt 7, 3) := dk_163 (by decide +kernel)
theorem dX8_in_10 : decode cX8_in 10 = .ok (.iconst 1, 1) := dk_4 (by decide +kernel)
theorem dX8_in_11 : decode cX8_in 11 = .ok (.goto 4, 3) := dk_167 (by decide +kernel)
set_option maxRecDepth 100000 in
set_option maxHeartbeats 8000000 in
theorem x_X8_in (l : Launch) (D : va_G) (y : wY) (ad : Nat → Nat) (i0 : Int32) (i1 : Int32) (i2 : Int32) (M : Mem) (K : Int32 → Mem → Prop) (h : wp_X8_in i0 i1 i2 M K) : MI l D y ad yX8_in (Cond.code yX8_in cX8_in 3 (some .boolean)) 0 M [.int i0, .int i1, .int i2] K := by
  refine MI_of (by decide) (Nat.le_of_ble_eq_true rfl) ?_
  intro p e s m args below meth c X hr hlocks
  delta wp_X8_in at h
  refine j_lv (lv1 := [(0, .int i0), (1, .int i1), (2, .int i2)]) [0, 1, 2] rfl ?_
  refine j_iload_n X 0 rfl rfl dX8_in_0 ?_
  refine j_iload_n X 1 rfl rfl dX8_in_1 ?_
  refine j_icmp_lt X 14 (by decide) dX8_in_2 (fun q_1 => ?_) (fun q_1 => ?_)
  · replace h := h.1 q_1
    refine j_iconst X (v := 0) (by decide) dX8_in_14 ?_
    exact j_zret X hr hlocks (Or.inl rfl) dX8_in_15 h
  · replace h := h.2 q_1
    refine j_iload_n X 0 rfl rfl dX8_in_5 ?_
    refine j_iload_n X 2 rfl rfl dX8_in_6 ?_
    refine j_icmp_gt X 14 (by decide) dX8_in_7 (fun q_2 => ?_) (fun q_2 => ?_)
    · replace h := h.1 q_2
      refine j_iconst X (v := 0) (by decide) dX8_in_14 ?_
      exact j_zret X hr hlocks (Or.inl rfl) dX8_in_15 h
    · replace h := h.2 q_2
      refine j_iconst X (v := 1) (by decide) dX8_in_10 ?_
      refine j_goto X 15 (by decide) dX8_in_11 ?_
      exact j_zret X hr hlocks (Or.inr rfl) dX8_in_15 h
theorem dX8_errs_0 : decode cX8_errs 0 = .ok (.aload_n 0, 1) := dk_42 (by decide +kernel)
theorem dX8_errs_1 : decode cX8_errs 1 = .ok (.getfield 19, 3) := dk_180 (by decide +kernel)
theorem dX8_errs_4 : decode cX8_errs 4 = .ok (.ldc 46, 2) := dk_18 (by decide +kernel)
theorem dX8_errs_6 : decode cX8_errs 6 = .ok (.iload_n 1, 1) := dk_27 (by decide +kernel)
theorem dX8_errs_7 : decode cX8_errs 7 = .ok (.isub, 1) := dk_100 (by decide +kernel)
theorem dX8_errs_8 : decode cX8_errs 8 = .ok (.dup2, 1) := dk_92 (by decide +kernel)
theorem dX8_errs_9 : decode cX8_errs 9 = .ok (.iaload, 1) := dk_46 (by decide +kernel)
theorem dX8_errs_10 : decode cX8_errs 10 = .ok (.iconst 1, 1) := dk_4 (by decide +kernel)
theorem dX8_errs_11 : decode cX8_errs 11 = .ok (.iadd, 1) := dk_96 (by decide +kernel)
theorem dX8_errs_12 : decode cX8_errs 12 = .ok (.iastore, 1) := dk_79 (by decide +kernel)
theorem dX8_errs_13 : decode cX8_errs 13 = .ok (.iload_n 1, 1) := dk_27 (by decide +kernel)
theorem dX8_errs_14 : decode cX8_errs 14 = .ok (.ireturn, 1) := dk_172 (by decide +kernel)
set_option maxRecDepth 100000 in
set_option maxHeartbeats 8000000 in
theorem x_X8_errs (l : Launch) (D : va_G) (y : wY) (ad : Nat → Nat) (i1 : Int32) (M : Mem) (K : Int32 → Mem → Prop) (h : wp_X8_errs i1 M K) : MI l D y ad yX8_errs (Cond.code yX8_errs cX8_errs 2 (some .int)) 0 M [.ref (ad 79), .int i1] K := by
  refine MI_of (by decide) (Nat.le_of_ble_eq_true rfl) ?_
  intro p e s m args below meth c X hr hlocks
  delta wp_X8_errs at h
  refine j_lv (lv1 := [(0, .ref (ad 79)), (1, .int i1)]) [0, 1] rfl ?_
  refine j_aload_n X 0 rfl rfl dX8_errs_0 ?_
  refine j_get X cl_79.1 (wE_8 _ cl_79.2) rfl awF8 5 (by decide) aw_95 rfl (v := .ref (ad 83)) rfl dX8_errs_1 ?_
  refine j_ldc X (v := (-1000000000)) aw_147 dX8_errs_4 ?_
  refine j_iload_n X 1 rfl rfl dX8_errs_6 ?_
  refine j_isub X dX8_errs_7 ?_
  refine j_dup2 X rfl rfl dX8_errs_8 ?_
  obtain ⟨hi_1, h⟩ := h
  refine j_iald X cl_83.1 cl_83.2 hi_1 dX8_errs_9 ?_
  refine j_iconst X (v := 1) (by decide) dX8_errs_10 ?_
  refine j_iadd X dX8_errs_11 ?_
  obtain ⟨hi_2, h⟩ := h
  refine j_iast X cl_83.1 cl_83.2 hi_2 dX8_errs_12 ?_
  refine j_iload_n X 1 rfl rfl dX8_errs_13 ?_
  exact j_iret X hr hlocks dX8_errs_14 h
theorem dX8_held_0 : decode cX8_held 0 = .ok (.iload_n 0, 1) := dk_26 (by decide +kernel)
theorem dX8_held_1 : decode cX8_held 1 = .ok (.iload_n 1, 1) := dk_27 (by decide +kernel)
theorem dX8_held_2 : decode cX8_held 2 = .ok (.if_icmp .ge 7, 3) := dk_162 (by decide +kernel)
theorem dX8_held_9 : decode cX8_held 9 = .ok (.iload_n 0, 1) := dk_26 (by decide +kernel)
theorem dX8_held_10 : decode cX8_held 10 = .ok (.iload_n 2, 1) := dk_28 (by decide +kernel)
theorem dX8_held_11 : decode cX8_held 11 = .ok (.if_icmp .le 7, 3) := dk_164 (by decide +kernel)
theorem dX8_held_18 : decode cX8_held 18 = .ok (.iload_n 0, 1) := dk_26 (by decide +kernel)
theorem dX8_held_19 : decode cX8_held 19 = .ok (.ireturn, 1) := dk_172 (by decide +kernel)
theorem dX8_held_14 : decode cX8_held 14 = .ok (.iload_n 2, 1) := dk_28 (by decide +kernel)
theorem dX8_held_15 : decode cX8_held 15 = .ok (.goto 4, 3) := dk_167 (by decide +kernel)
theorem dX8_held_5 : decode cX8_held 5 = .ok (.iload_n 1, 1) := dk_27 (by decide +kernel)
theorem dX8_held_6 : decode cX8_held 6 = .ok (.goto 13, 3) := dk_167 (by decide +kernel)
set_option maxRecDepth 100000 in
set_option maxHeartbeats 8000000 in
theorem x_X8_held (l : Launch) (D : va_G) (y : wY) (ad : Nat → Nat) (i0 : Int32) (i1 : Int32) (i2 : Int32) (M : Mem) (K : Int32 → Mem → Prop) (h : wp_X8_held i0 i1 i2 M K) : MI l D y ad yX8_held (Cond.code yX8_held cX8_held 3 (some .int)) 0 M [.int i0, .int i1, .int i2] K := by
  refine MI_of (by decide) (Nat.le_of_ble_eq_true rfl) ?_
  intro p e s m args below meth c X hr hlocks
  delta wp_X8_held at h
  refine j_lv (lv1 := [(0, .int i0), (1, .int i1), (2, .int i2)]) [0, 1, 2] rfl ?_
  refine j_iload_n X 0 rfl rfl dX8_held_0 ?_
  refine j_iload_n X 1 rfl rfl dX8_held_1 ?_
  refine j_icmp_ge X 9 (by decide) dX8_held_2 (fun q_1 => ?_) (fun q_1 => ?_)
  · replace h := h.1 q_1
    refine j_iload_n X 0 rfl rfl dX8_held_9 ?_
    refine j_iload_n X 2 rfl rfl dX8_held_10 ?_
    refine j_icmp_le X 18 (by decide) dX8_held_11 (fun q_2 => ?_) (fun q_2 => ?_)
    · replace h := h.1 q_2
      refine j_iload_n X 0 rfl rfl dX8_held_18 ?_
      exact j_iret X hr hlocks dX8_held_19 h
    · replace h := h.2 q_2
      refine j_iload_n X 2 rfl rfl dX8_held_14 ?_
      refine j_goto X 19 (by decide) dX8_held_15 ?_
      exact j_iret X hr hlocks dX8_held_19 h
  · replace h := h.2 q_1
    refine j_iload_n X 1 rfl rfl dX8_held_5 ?_
    refine j_goto X 19 (by decide) dX8_held_6 ?_
    exact j_iret X hr hlocks dX8_held_19 h
theorem dX8_moveAll_2 : decode cX8_moveAll 2 = .ok (.iload_n 3, 1) := dk_29 (by decide +kernel)
theorem dX8_moveAll_3 : decode cX8_moveAll 3 = .ok (.sipush 244, 3) := dk_17 (by decide +kernel)
theorem dX8_moveAll_6 : decode cX8_moveAll 6 = .ok (.if_icmp .ge 15, 3) := dk_162 (by decide +kernel)
theorem dX8_moveAll_21 : decode cX8_moveAll 21 = .ok (.return_, 1) := dk_177 (by decide +kernel)
theorem dX8_moveAll_9 : decode cX8_moveAll 9 = .ok (.aload_n 2, 1) := dk_44 (by decide +kernel)
theorem dX8_moveAll_10 : decode cX8_moveAll 10 = .ok (.iload_n 3, 1) := dk_29 (by decide +kernel)
theorem dX8_moveAll_11 : decode cX8_moveAll 11 = .ok (.aload_n 1, 1) := dk_43 (by decide +kernel)
theorem dX8_moveAll_12 : decode cX8_moveAll 12 = .ok (.iload_n 3, 1) := dk_29 (by decide +kernel)
theorem dX8_moveAll_13 : decode cX8_moveAll 13 = .ok (.iaload, 1) := dk_46 (by decide +kernel)
theorem dX8_moveAll_14 : decode cX8_moveAll 14 = .ok (.iastore, 1) := dk_79 (by decide +kernel)
theorem dX8_moveAll_15 : decode cX8_moveAll 15 = .ok (.iinc 3 1, 3) := dk_132 (by decide +kernel)
theorem dX8_moveAll_18 : decode cX8_moveAll 18 = .ok (.goto (-16), 3) := dk_167 (by decide +kernel)
theorem dX8_moveAll_0 : decode cX8_moveAll 0 = .ok (.iconst 0, 1) := dk_3 (by decide +kernel)
theorem dX8_moveAll_1 : decode cX8_moveAll 1 = .ok (.istore_n 3, 1) := dk_62 (by decide +kernel)
set_option maxRecDepth 100000 in
set_option maxHeartbeats 8000000 in
theorem x_X8_moveAll (l : Launch) (D : va_G) (y : wY) (ad : Nat → Nat) (x1 : Nat) (x2 : Nat) (hx1 : Cl x1 9) (hx2 : Cl x2 9) (M : Mem) (K : Mem → Prop) (h : wp_X8_moveAll x1 x2 M K) : MV l D y ad yX8_moveAll (Cond.code yX8_moveAll cX8_moveAll 4 none) 0 M [.ref (ad 79), .ref (ad x1), .ref (ad x2)] K := by
  refine MV_of (by decide) (Nat.le_of_ble_eq_true rfl) ?_
  intro p e s m args below meth c X hr hlocks
  have hL2 : ∀ (x1 : Nat) (x2 : Nat) (hx1 : Cl x1 9) (hx2 : Cl x2 9) (n : Nat) (i3 : Int32) (Mb : Mem), wp_X8_moveAll_L2 K x1 x2 n i3 Mb → J p l e (rmN 0) s m args below meth c 0 0 (QV K D y ad M s args below) D y ad (va_A (PL y ad M) s.heap.size) 4 Mb 2 [(1, .ref (ad x1)), (2, .ref (ad x2)), (3, .int i3)] [] := by
    intro x1 x2 hx1 hx2 n
    induction n with
    | zero => intro i3 Mb h; exact False.elim h
    | succ n hB2 =>
      intro i3 Mb h
      replace h : wp_X8_moveAll_l2 K x1 x2 (wp_X8_moveAll_L2 K x1 x2 n) i3 Mb := h
      delta wp_X8_moveAll_l2 at h
      refine j_iload_n X 2 rfl rfl dX8_moveAll_2 ?_
      refine j_sipush X (v := 244) (by decide) dX8_moveAll_3 ?_
      refine j_icmp_ge X 21 (by decide) dX8_moveAll_6 (fun q_201 => ?_) (fun q_201 => ?_)
      · replace h := h.1 q_201
        exact j_vret X hr hlocks dX8_moveAll_21 h
      · replace h := h.2 q_201
        refine j_aload_n X 1 rfl rfl dX8_moveAll_9 ?_
        refine j_iload_n X 2 rfl rfl dX8_moveAll_10 ?_
        refine j_aload_n X 0 rfl rfl dX8_moveAll_11 ?_
        refine j_iload_n X 2 rfl rfl dX8_moveAll_12 ?_
        obtain ⟨hi_202, h⟩ := h
        refine j_iald X hx1.1 hx1.2 hi_202 dX8_moveAll_13 ?_
        obtain ⟨hi_203, h⟩ := h
        refine j_iast X hx2.1 hx2.2 hi_203 dX8_moveAll_14 ?_
        refine j_iinc X (v := (i3 + 1)) 2 [(3, .int (i3 + 1)), (1, .ref (ad x1)), (2, .ref (ad x2))] rfl rfl (by decide) rfl dX8_moveAll_15 ?_
        refine j_goto X 2 (by decide) dX8_moveAll_18 ?_
        refine j_lv (lv1 := [(1, .ref (ad x1)), (2, .ref (ad x2)), (3, .int (i3 + 1))]) [1, 2, 0] rfl ?_
        exact hB2 _ _ h
  delta wp_X8_moveAll at h
  refine j_lv (lv1 := [(0, .ref (ad 79)), (1, .ref (ad x1)), (2, .ref (ad x2))]) [0, 1, 2] rfl ?_
  refine j_iconst X (v := 0) (by decide) dX8_moveAll_0 ?_
  refine j_istore_n X [(3, .int 0), (0, .ref (ad 79)), (1, .ref (ad x1)), (2, .ref (ad x2))] rfl (by decide) rfl dX8_moveAll_1 ?_
  refine j_lv (lv1 := [(1, .ref (ad x1)), (2, .ref (ad x2)), (3, .int 0)]) [2, 3, 0] rfl ?_
  obtain ⟨n2, h⟩ := h
  exact hL2 _ _ hx1 hx2  n2 _ _ h
theorem dX8_bits_4 : decode cX8_bits 4 = .ok (.iload_n 2, 1) := dk_28 (by decide +kernel)
theorem dX8_bits_5 : decode cX8_bits 5 = .ok (.ifCond .eq 15, 3) := dk_153 (by decide +kernel)
theorem dX8_bits_20 : decode cX8_bits 20 = .ok (.iload_n 1, 1) := dk_27 (by decide +kernel)
theorem dX8_bits_21 : decode cX8_bits 21 = .ok (.ireturn, 1) := dk_172 (by decide +kernel)
theorem dX8_bits_8 : decode cX8_bits 8 = .ok (.iinc 1 1, 3) := dk_132 (by decide +kernel)
theorem dX8_bits_11 : decode cX8_bits 11 = .ok (.iload_n 2, 1) := dk_28 (by decide +kernel)
theorem dX8_bits_12 : decode cX8_bits 12 = .ok (.iload_n 2, 1) := dk_28 (by decide +kernel)
theorem dX8_bits_13 : decode cX8_bits 13 = .ok (.iconst 1, 1) := dk_4 (by decide +kernel)
theorem dX8_bits_14 : decode cX8_bits 14 = .ok (.isub, 1) := dk_100 (by decide +kernel)
theorem dX8_bits_15 : decode cX8_bits 15 = .ok (.iand, 1) := dk_126 (by decide +kernel)
theorem dX8_bits_16 : decode cX8_bits 16 = .ok (.istore_n 2, 1) := dk_61 (by decide +kernel)
theorem dX8_bits_17 : decode cX8_bits 17 = .ok (.goto (-13), 3) := dk_167 (by decide +kernel)
theorem dX8_bits_0 : decode cX8_bits 0 = .ok (.iconst 0, 1) := dk_3 (by decide +kernel)
theorem dX8_bits_1 : decode cX8_bits 1 = .ok (.istore_n 1, 1) := dk_60 (by decide +kernel)
theorem dX8_bits_2 : decode cX8_bits 2 = .ok (.iload_n 0, 1) := dk_26 (by decide +kernel)
theorem dX8_bits_3 : decode cX8_bits 3 = .ok (.istore_n 2, 1) := dk_61 (by decide +kernel)
set_option maxRecDepth 100000 in
set_option maxHeartbeats 8000000 in
theorem x_X8_bits (l : Launch) (D : va_G) (y : wY) (ad : Nat → Nat) (i0 : Int32) (M : Mem) (K : Int32 → Mem → Prop) (h : wp_X8_bits i0 M K) : MI l D y ad yX8_bits (Cond.code yX8_bits cX8_bits 3 (some .int)) 0 M [.int i0] K := by
  refine MI_of (by decide) (Nat.le_of_ble_eq_true rfl) ?_
  intro p e s m args below meth c X hr hlocks
  have hL4 : ∀ (n : Nat) (i1 : Int32) (i2 : Int32) (Mb : Mem), wp_X8_bits_L4 K n i1 i2 Mb → J p l e (rmN 0) s m args below meth c 0 0 (QI K D y ad M s args below) D y ad (va_A (PL y ad M) s.heap.size) 3 Mb 4 [(1, .int i1), (2, .int i2)] [] := by
    intro n
    induction n with
    | zero => intro i1 i2 Mb h; exact False.elim h
    | succ n hB4 =>
      intro i1 i2 Mb h
      replace h : wp_X8_bits_l4 K (wp_X8_bits_L4 K n) i1 i2 Mb := h
      delta wp_X8_bits_l4 at h
      refine j_iload_n X 1 rfl rfl dX8_bits_4 ?_
      refine j_if_eq X 20 (by decide) dX8_bits_5 (fun q_401 => ?_) (fun q_401 => ?_)
      · replace h := h.1 q_401
        refine j_iload_n X 0 rfl rfl dX8_bits_20 ?_
        exact j_iret X hr hlocks dX8_bits_21 h
      · replace h := h.2 q_401
        refine j_iinc X (v := (i1 + 1)) 0 [(1, .int (i1 + 1)), (2, .int i2)] rfl rfl (by decide) rfl dX8_bits_8 ?_
        refine j_iload_n X 1 rfl rfl dX8_bits_11 ?_
        refine j_iload_n X 1 rfl rfl dX8_bits_12 ?_
        refine j_iconst X (v := 1) (by decide) dX8_bits_13 ?_
        refine j_isub X dX8_bits_14 ?_
        refine j_iand X dX8_bits_15 ?_
        refine j_istore_n X [(2, .int (i2 &&& (i2 - 1))), (1, .int (i1 + 1))] rfl (by decide) rfl dX8_bits_16 ?_
        refine j_goto X 4 (by decide) dX8_bits_17 ?_
        refine j_lv (lv1 := [(1, .int (i1 + 1)), (2, .int (i2 &&& (i2 - 1)))]) [1, 0] rfl ?_
        exact hB4 _ _ _ h
  delta wp_X8_bits at h
  refine j_lv (lv1 := [(0, .int i0)]) [0] rfl ?_
  refine j_iconst X (v := 0) (by decide) dX8_bits_0 ?_
  refine j_istore_n X [(1, .int 0), (0, .int i0)] rfl (by decide) rfl dX8_bits_1 ?_
  refine j_iload_n X 1 rfl rfl dX8_bits_2 ?_
  refine j_istore_n X [(2, .int i0), (1, .int 0), (0, .int i0)] rfl (by decide) rfl dX8_bits_3 ?_
  refine j_lv (lv1 := [(1, .int 0), (2, .int i0)]) [1, 0] rfl ?_
  obtain ⟨n4, h⟩ := h
  exact hL4    n4 _ _ _ h
theorem dX8_its_0 : decode cX8_its 0 = .ok (.aload_n 0, 1) := dk_42 (by decide +kernel)
theorem dX8_its_1 : decode cX8_its 1 = .ok (.getfield 7, 3) := dk_180 (by decide +kernel)
theorem dX8_its_4 : decode cX8_its 4 = .ok (.bipush 11, 2) := dk_16 (by decide +kernel)
theorem dX8_its_6 : decode cX8_its 6 = .ok (.bipush 7, 2) := dk_16 (by decide +kernel)
theorem dX8_its_8 : decode cX8_its 8 = .ok (.iload_n 1, 1) := dk_27 (by decide +kernel)
theorem dX8_its_9 : decode cX8_its 9 = .ok (.imul, 1) := dk_104 (by decide +kernel)
theorem dX8_its_10 : decode cX8_its 10 = .ok (.iadd, 1) := dk_96 (by decide +kernel)
theorem dX8_its_11 : decode cX8_its 11 = .ok (.iload_n 2, 1) := dk_28 (by decide +kernel)
theorem dX8_its_12 : decode cX8_its 12 = .ok (.iadd, 1) := dk_96 (by decide +kernel)
theorem dX8_its_13 : decode cX8_its 13 = .ok (.iaload, 1) := dk_46 (by decide +kernel)
theorem dX8_its_14 : decode cX8_its 14 = .ok (.ireturn, 1) := dk_172 (by decide +kernel)
set_option maxRecDepth 100000 in
set_option maxHeartbeats 8000000 in
theorem x_X8_its (l : Launch) (D : va_G) (y : wY) (ad : Nat → Nat) (i1 : Int32) (i2 : Int32) (M : Mem) (K : Int32 → Mem → Prop) (h : wp_X8_its i1 i2 M K) : MI l D y ad yX8_its (Cond.code yX8_its cX8_its 3 (some .int)) 0 M [.ref (ad 79), .int i1, .int i2] K := by
  refine MI_of (by decide) (Nat.le_of_ble_eq_true rfl) ?_
  intro p e s m args below meth c X hr hlocks
  delta wp_X8_its at h
  refine j_lv (lv1 := [(0, .ref (ad 79)), (1, .int i1), (2, .int i2)]) [0, 1, 2] rfl ?_
  refine j_aload_n X 0 rfl rfl dX8_its_0 ?_
  refine j_get X cl_79.1 (wE_8 _ cl_79.2) rfl awF8 0 (by decide) aw_92 rfl (v := .ref (ad 80)) rfl dX8_its_1 ?_
  refine j_bipush X (v := 11) (by decide) dX8_its_4 ?_
  refine j_bipush X (v := 7) (by decide) dX8_its_6 ?_
  refine j_iload_n X 1 rfl rfl dX8_its_8 ?_
  refine j_imul X dX8_its_9 ?_
  refine j_iadd X dX8_its_10 ?_
  refine j_iload_n X 2 rfl rfl dX8_its_11 ?_
  refine j_iadd X dX8_its_12 ?_
  obtain ⟨hi_1, h⟩ := h
  refine j_iald X cl_80.1 cl_80.2 hi_1 dX8_its_13 ?_
  exact j_iret X hr hlocks dX8_its_14 h
theorem dX8_gets_0 : decode cX8_gets 0 = .ok (.aload_n 0, 1) := dk_42 (by decide +kernel)
theorem dX8_gets_1 : decode cX8_gets 1 = .ok (.getfield 7, 3) := dk_180 (by decide +kernel)
theorem dX8_gets_4 : decode cX8_gets 4 = .ok (.bipush 11, 2) := dk_16 (by decide +kernel)
theorem dX8_gets_6 : decode cX8_gets 6 = .ok (.bipush 7, 2) := dk_16 (by decide +kernel)
theorem dX8_gets_8 : decode cX8_gets 8 = .ok (.iload_n 1, 1) := dk_27 (by decide +kernel)
theorem dX8_gets_9 : decode cX8_gets 9 = .ok (.imul, 1) := dk_104 (by decide +kernel)
theorem dX8_gets_10 : decode cX8_gets 10 = .ok (.iadd, 1) := dk_96 (by decide +kernel)
theorem dX8_gets_11 : decode cX8_gets 11 = .ok (.iload_n 2, 1) := dk_28 (by decide +kernel)
theorem dX8_gets_12 : decode cX8_gets 12 = .ok (.iadd, 1) := dk_96 (by decide +kernel)
theorem dX8_gets_13 : decode cX8_gets 13 = .ok (.iload_n 3, 1) := dk_29 (by decide +kernel)
theorem dX8_gets_14 : decode cX8_gets 14 = .ok (.iastore, 1) := dk_79 (by decide +kernel)
theorem dX8_gets_15 : decode cX8_gets 15 = .ok (.return_, 1) := dk_177 (by decide +kernel)
set_option maxRecDepth 100000 in
set_option maxHeartbeats 8000000 in
theorem x_X8_gets (l : Launch) (D : va_G) (y : wY) (ad : Nat → Nat) (i1 : Int32) (i2 : Int32) (i3 : Int32) (M : Mem) (K : Mem → Prop) (h : wp_X8_gets i1 i2 i3 M K) : MV l D y ad yX8_gets (Cond.code yX8_gets cX8_gets 4 none) 0 M [.ref (ad 79), .int i1, .int i2, .int i3] K := by
  refine MV_of (by decide) (Nat.le_of_ble_eq_true rfl) ?_
  intro p e s m args below meth c X hr hlocks
  delta wp_X8_gets at h
  refine j_lv (lv1 := [(0, .ref (ad 79)), (1, .int i1), (2, .int i2), (3, .int i3)]) [0, 1, 2, 3] rfl ?_
  refine j_aload_n X 0 rfl rfl dX8_gets_0 ?_
  refine j_get X cl_79.1 (wE_8 _ cl_79.2) rfl awF8 0 (by decide) aw_92 rfl (v := .ref (ad 80)) rfl dX8_gets_1 ?_
  refine j_bipush X (v := 11) (by decide) dX8_gets_4 ?_
  refine j_bipush X (v := 7) (by decide) dX8_gets_6 ?_
  refine j_iload_n X 1 rfl rfl dX8_gets_8 ?_
  refine j_imul X dX8_gets_9 ?_
  refine j_iadd X dX8_gets_10 ?_
  refine j_iload_n X 2 rfl rfl dX8_gets_11 ?_
  refine j_iadd X dX8_gets_12 ?_
  refine j_iload_n X 3 rfl rfl dX8_gets_13 ?_
  obtain ⟨hi_1, h⟩ := h
  refine j_iast X cl_80.1 cl_80.2 hi_1 dX8_gets_14 ?_
  exact j_vret X hr hlocks dX8_gets_15 h
theorem dX8_isQuarrel_0 : decode cX8_isQuarrel 0 = .ok (.iload_n 1, 1) := dk_27 (by decide +kernel)
theorem dX8_isQuarrel_1 : decode cX8_isQuarrel 1 = .ok (.iconst 0, 1) := dk_3 (by decide +kernel)
theorem dX8_isQuarrel_2 : decode cX8_isQuarrel 2 = .ok (.aload_n 0, 1) := dk_42 (by decide +kernel)
theorem dX8_isQuarrel_3 : decode cX8_isQuarrel 3 = .ok (.getfield 7, 3) := dk_180 (by decide +kernel)
theorem dX8_isQuarrel_6 : decode cX8_isQuarrel 6 = .ok (.iconst 2, 1) := dk_5 (by decide +kernel)
theorem dX8_isQuarrel_7 : decode cX8_isQuarrel 7 = .ok (.iaload, 1) := dk_46 (by decide +kernel)
theorem dX8_isQuarrel_8 : decode cX8_isQuarrel 8 = .ok (.iconst 1, 1) := dk_4 (by decide +kernel)
theorem dX8_isQuarrel_9 : decode cX8_isQuarrel 9 = .ok (.isub, 1) := dk_100 (by decide +kernel)
theorem dX8_isQuarrel_10 : decode cX8_isQuarrel 10 = .ok (.invokestatic 47, 3) := dk_184 (by decide +kernel)
theorem dX8_isQuarrel_13 : decode cX8_isQuarrel 13 = .ok (.ireturn, 1) := dk_172 (by decide +kernel)
set_option maxRecDepth 100000 in
set_option maxHeartbeats 8000000 in
theorem x_X8_isQuarrel (l : Launch) (D : va_G) (y : wY) (ad : Nat → Nat) (i1 : Int32) (M : Mem) (K : Int32 → Mem → Prop) (h : wp_X8_isQuarrel i1 M K) : MI l D y ad yX8_isQuarrel (Cond.code yX8_isQuarrel cX8_isQuarrel 2 (some .boolean)) 1 M [.ref (ad 79), .int i1] K := by
  refine MI_of (by decide) (Nat.le_of_ble_eq_true rfl) ?_
  intro p e s m args below meth c X hr hlocks
  delta wp_X8_isQuarrel at h
  refine j_lv (lv1 := [(0, .ref (ad 79)), (1, .int i1)]) [0, 1] rfl ?_
  refine j_iload_n X 1 rfl rfl dX8_isQuarrel_0 ?_
  refine j_iconst X (v := 0) (by decide) dX8_isQuarrel_1 ?_
  refine j_aload_n X 0 rfl rfl dX8_isQuarrel_2 ?_
  refine j_get X cl_79.1 (wE_8 _ cl_79.2) rfl awF8 0 (by decide) aw_92 rfl (v := .ref (ad 80)) rfl dX8_isQuarrel_3 ?_
  refine j_iconst X (v := 2) (by decide) dX8_isQuarrel_6 ?_
  refine j_iald X cl_80.1 cl_80.2 (by unfold vp_in; decide) dX8_isQuarrel_7 ?_
  refine j_eqi (v := M 80 2) rfl ?_
  refine j_iconst X (v := 1) (by decide) dX8_isQuarrel_8 ?_
  refine j_isub X dX8_isQuarrel_9 ?_
  refine j_callSI X (nn := 3) (As := [.int i1, .int 0, .int ((M 80 2) - 1)]) (st := []) aw_134 (x_X8_in l D y ad i1 0 ((M 80 2) - 1) _ _ h) aw_133 aw_135 aw_5 (by decide +kernel) ⟨Nat.le_of_ble_eq_true rfl, Nat.le_of_ble_eq_true rfl⟩ rfl (Nat.le_of_ble_eq_true rfl) ⟨Nat.le_of_ble_eq_true rfl, Nat.le_of_ble_eq_true rfl⟩ dX8_isQuarrel_10 ?_
  intro r1 M1 h
  obtain ⟨hb_2, h⟩ := h
  exact j_zret X hr hlocks hb_2 dX8_isQuarrel_13 h
theorem dX8_isArea_0 : decode cX8_isArea 0 = .ok (.iload_n 0, 1) := dk_26 (by decide +kernel)
theorem dX8_isArea_1 : decode cX8_isArea 1 = .ok (.iconst 0, 1) := dk_3 (by decide +kernel)
theorem dX8_isArea_2 : decode cX8_isArea 2 = .ok (.bipush 9, 2) := dk_16 (by decide +kernel)
theorem dX8_isArea_4 : decode cX8_isArea 4 = .ok (.invokestatic 47, 3) := dk_184 (by decide +kernel)
theorem dX8_isArea_7 : decode cX8_isArea 7 = .ok (.ireturn, 1) := dk_172 (by decide +kernel)
set_option maxRecDepth 100000 in
set_option maxHeartbeats 8000000 in
theorem x_X8_isArea (l : Launch) (D : va_G) (y : wY) (ad : Nat → Nat) (i0 : Int32) (M : Mem) (K : Int32 → Mem → Prop) (h : wp_X8_isArea i0 M K) : MI l D y ad yX8_isArea (Cond.code yX8_isArea cX8_isArea 1 (some .boolean)) 1 M [.int i0] K := by
  refine MI_of (by decide) (Nat.le_of_ble_eq_true rfl) ?_
  intro p e s m args below meth c X hr hlocks
  delta wp_X8_isArea at h
  refine j_lv (lv1 := [(0, .int i0)]) [0] rfl ?_
  refine j_iload_n X 0 rfl rfl dX8_isArea_0 ?_
  refine j_iconst X (v := 0) (by decide) dX8_isArea_1 ?_
  refine j_bipush X (v := 9) (by decide) dX8_isArea_2 ?_
  refine j_callSI X (nn := 3) (As := [.int i0, .int 0, .int 9]) (st := []) aw_134 (x_X8_in l D y ad i0 0 9 _ _ h) aw_133 aw_135 aw_5 (by decide +kernel) ⟨Nat.le_of_ble_eq_true rfl, Nat.le_of_ble_eq_true rfl⟩ rfl (Nat.le_of_ble_eq_true rfl) ⟨Nat.le_of_ble_eq_true rfl, Nat.le_of_ble_eq_true rfl⟩ dX8_isArea_4 ?_
  intro r1 M1 h
  obtain ⟨hb_2, h⟩ := h
  exact j_zret X hr hlocks hb_2 dX8_isArea_7 h
theorem dX8_becomes_0 : decode cX8_becomes 0 = .ok (.aload_n 0, 1) := dk_42 (by decide +kernel)
theorem dX8_becomes_1 : decode cX8_becomes 1 = .ok (.getfield 7, 3) := dk_180 (by decide +kernel)
theorem dX8_becomes_4 : decode cX8_becomes 4 = .ok (.iload_n 1, 1) := dk_27 (by decide +kernel)
theorem dX8_becomes_5 : decode cX8_becomes 5 = .ok (.iaload, 1) := dk_46 (by decide +kernel)
theorem dX8_becomes_6 : decode cX8_becomes 6 = .ok (.istore_n 3, 1) := dk_62 (by decide +kernel)
theorem dX8_becomes_7 : decode cX8_becomes 7 = .ok (.aload_n 0, 1) := dk_42 (by decide +kernel)
theorem dX8_becomes_8 : decode cX8_becomes 8 = .ok (.getfield 7, 3) := dk_180 (by decide +kernel)
theorem dX8_becomes_11 : decode cX8_becomes 11 = .ok (.iload_n 1, 1) := dk_27 (by decide +kernel)
theorem dX8_becomes_12 : decode cX8_becomes 12 = .ok (.iload_n 2, 1) := dk_28 (by decide +kernel)
theorem dX8_becomes_13 : decode cX8_becomes 13 = .ok (.iastore, 1) := dk_79 (by decide +kernel)
theorem dX8_becomes_14 : decode cX8_becomes 14 = .ok (.iload_n 3, 1) := dk_29 (by decide +kernel)
theorem dX8_becomes_15 : decode cX8_becomes 15 = .ok (.ireturn, 1) := dk_172 (by decide +kernel)
set_option maxRecDepth 100000 in
set_option maxHeartbeats 8000000 in
theorem x_X8_becomes (l : Launch) (D : va_G) (y : wY) (ad : Nat → Nat) (i1 : Int32) (i2 : Int32) (M : Mem) (K : Int32 → Mem → Prop) (h : wp_X8_becomes i1 i2 M K) : MI l D y ad yX8_becomes (Cond.code yX8_becomes cX8_becomes 4 (some .int)) 0 M [.ref (ad 79), .int i1, .int i2] K := by
  refine MI_of (by decide) (Nat.le_of_ble_eq_true rfl) ?_
  intro p e s m args below meth c X hr hlocks
  delta wp_X8_becomes at h
  refine j_lv (lv1 := [(0, .ref (ad 79)), (1, .int i1), (2, .int i2)]) [0, 1, 2] rfl ?_
  refine j_aload_n X 0 rfl rfl dX8_becomes_0 ?_
  refine j_get X cl_79.1 (wE_8 _ cl_79.2) rfl awF8 0 (by decide) aw_92 rfl (v := .ref (ad 80)) rfl dX8_becomes_1 ?_
  refine j_iload_n X 1 rfl rfl dX8_becomes_4 ?_
  obtain ⟨hi_1, h⟩ := h
  refine j_iald X cl_80.1 cl_80.2 hi_1 dX8_becomes_5 ?_
  refine j_istore_n X [(3, .int (M 80 i1.toNatClampNeg)), (0, .ref (ad 79)), (1, .int i1), (2, .int i2)] rfl (by decide) rfl dX8_becomes_6 ?_
  refine j_aload_n X 1 rfl rfl dX8_becomes_7 ?_
  refine j_get X cl_79.1 (wE_8 _ cl_79.2) rfl awF8 0 (by decide) aw_92 rfl (v := .ref (ad 80)) rfl dX8_becomes_8 ?_
  refine j_iload_n X 2 rfl rfl dX8_becomes_11 ?_
  refine j_iload_n X 3 rfl rfl dX8_becomes_12 ?_
  obtain ⟨hi_2, h⟩ := h
  refine j_iast X cl_80.1 cl_80.2 hi_2 dX8_becomes_13 ?_
  refine j_iload_n X 0 rfl rfl dX8_becomes_14 ?_
  exact j_iret X hr hlocks dX8_becomes_15 h
theorem dX8_set_0 : decode cX8_set 0 = .ok (.iload_n 1, 1) := dk_27 (by decide +kernel)
theorem dX8_set_1 : decode cX8_set 1 = .ok (.iconst 0, 1) := dk_3 (by decide +kernel)
theorem dX8_set_2 : decode cX8_set 2 = .ok (.iconst 1, 1) := dk_4 (by decide +kernel)
theorem dX8_set_3 : decode cX8_set 3 = .ok (.invokestatic 47, 3) := dk_184 (by decide +kernel)
theorem dX8_set_6 : decode cX8_set 6 = .ok (.ifCond .eq 10, 3) := dk_153 (by decide +kernel)
theorem dX8_set_16 : decode cX8_set 16 = .ok (.iload_n 1, 1) := dk_27 (by decide +kernel)
theorem dX8_set_17 : decode cX8_set 17 = .ok (.iconst 2, 1) := dk_5 (by decide +kernel)
theorem dX8_set_18 : decode cX8_set 18 = .ok (.iconst 3, 1) := dk_6 (by decide +kernel)
theorem dX8_set_19 : decode cX8_set 19 = .ok (.invokestatic 47, 3) := dk_184 (by decide +kernel)
theorem dX8_set_22 : decode cX8_set 22 = .ok (.ifCond .eq 17, 3) := dk_153 (by decide +kernel)
theorem dX8_set_39 : decode cX8_set 39 = .ok (.iconst 0, 1) := dk_3 (by decide +kernel)
theorem dX8_set_40 : decode cX8_set 40 = .ok (.istore_n 3, 1) := dk_62 (by decide +kernel)
theorem dX8_set_41 : decode cX8_set 41 = .ok (.iload_n 3, 1) := dk_29 (by decide +kernel)
theorem dX8_set_42 : decode cX8_set 42 = .ok (.ifCond .eq 15, 3) := dk_153 (by decide +kernel)
theorem dX8_set_57 : decode cX8_set 57 = .ok (.aload_n 0, 1) := dk_42 (by decide +kernel)
theorem dX8_set_58 : decode cX8_set 58 = .ok (.ldc 60, 2) := dk_18 (by decide +kernel)
theorem dX8_set_60 : decode cX8_set 60 = .ok (.invokevirtual 61, 3) := dk_182 (by decide +kernel)
theorem dX8_set_63 : decode cX8_set 63 = .ok (.ireturn, 1) := dk_172 (by decide +kernel)
theorem dX8_set_25 : decode cX8_set 25 = .ok (.iload_n 2, 1) := dk_28 (by decide +kernel)
theorem dX8_set_26 : decode cX8_set 26 = .ok (.iconst 0, 1) := dk_3 (by decide +kernel)
theorem dX8_set_27 : decode cX8_set 27 = .ok (.ldc 55, 2) := dk_18 (by decide +kernel)
theorem dX8_set_29 : decode cX8_set 29 = .ok (.invokestatic 47, 3) := dk_184 (by decide +kernel)
theorem dX8_set_32 : decode cX8_set 32 = .ok (.ifCond .eq 7, 3) := dk_153 (by decide +kernel)
theorem dX8_set_35 : decode cX8_set 35 = .ok (.iconst 1, 1) := dk_4 (by decide +kernel)
theorem dX8_set_36 : decode cX8_set 36 = .ok (.goto 4, 3) := dk_167 (by decide +kernel)
theorem dX8_set_45 : decode cX8_set 45 = .ok (.aload_n 0, 1) := dk_42 (by decide +kernel)
theorem dX8_set_46 : decode cX8_set 46 = .ok (.bipush 7, 2) := dk_16 (by decide +kernel)
theorem dX8_set_48 : decode cX8_set 48 = .ok (.iload_n 1, 1) := dk_27 (by decide +kernel)
theorem dX8_set_49 : decode cX8_set 49 = .ok (.iadd, 1) := dk_96 (by decide +kernel)
theorem dX8_set_50 : decode cX8_set 50 = .ok (.iload_n 2, 1) := dk_28 (by decide +kernel)
theorem dX8_set_51 : decode cX8_set 51 = .ok (.invokevirtual 56, 3) := dk_182 (by decide +kernel)
theorem dX8_set_54 : decode cX8_set 54 = .ok (.goto 9, 3) := dk_167 (by decide +kernel)
theorem dX8_set_9 : decode cX8_set 9 = .ok (.iload_n 2, 1) := dk_28 (by decide +kernel)
theorem dX8_set_10 : decode cX8_set 10 = .ok (.invokestatic 51, 3) := dk_184 (by decide +kernel)
theorem dX8_set_13 : decode cX8_set 13 = .ok (.goto 27, 3) := dk_167 (by decide +kernel)
set_option maxRecDepth 100000 in
set_option maxHeartbeats 8000000 in
theorem x_X8_set (l : Launch) (D : va_G) (y : wY) (ad : Nat → Nat) (i1 : Int32) (i2 : Int32) (M : Mem) (K : Int32 → Mem → Prop) (h : wp_X8_set i1 i2 M K) : MI l D y ad yX8_set (Cond.code yX8_set cX8_set 4 (some .int)) 2 M [.ref (ad 79), .int i1, .int i2] K := by
  refine MI_of (by decide) (Nat.le_of_ble_eq_true rfl) ?_
  intro p e s m args below meth c X hr hlocks
  delta wp_X8_set at h
  refine j_lv (lv1 := [(0, .ref (ad 79)), (1, .int i1), (2, .int i2)]) [0, 1, 2] rfl ?_
  refine j_iload_n X 1 rfl rfl dX8_set_0 ?_
  refine j_iconst X (v := 0) (by decide) dX8_set_1 ?_
  refine j_iconst X (v := 1) (by decide) dX8_set_2 ?_
  refine j_callSI X (nn := 3) (As := [.int i1, .int 0, .int 1]) (st := []) aw_134 (x_X8_in l D y ad i1 0 1 _ _ h) aw_133 aw_135 aw_5 (by decide +kernel) ⟨Nat.le_of_ble_eq_true rfl, Nat.le_of_ble_eq_true rfl⟩ rfl (Nat.le_of_ble_eq_true rfl) ⟨Nat.le_of_ble_eq_true rfl, Nat.le_of_ble_eq_true rfl⟩ dX8_set_3 ?_
  intro r1 M1 h
  refine j_if_eq X 16 (by decide) dX8_set_6 (fun q_2 => ?_) (fun q_2 => ?_)
  · replace h := h.1 q_2
    refine j_iload_n X 1 rfl rfl dX8_set_16 ?_
    refine j_iconst X (v := 2) (by decide) dX8_set_17 ?_
    refine j_iconst X (v := 3) (by decide) dX8_set_18 ?_
    refine j_callSI X (nn := 3) (As := [.int i1, .int 2, .int 3]) (st := []) aw_134 (x_X8_in l D y ad i1 2 3 _ _ h) aw_133 aw_135 aw_5 (by decide +kernel) ⟨Nat.le_of_ble_eq_true rfl, Nat.le_of_ble_eq_true rfl⟩ rfl (Nat.le_of_ble_eq_true rfl) ⟨Nat.le_of_ble_eq_true rfl, Nat.le_of_ble_eq_true rfl⟩ dX8_set_19 ?_
    intro r3 M3 h
    refine j_if_eq X 39 (by decide) dX8_set_22 (fun q_4 => ?_) (fun q_4 => ?_)
    · replace h := h.1 q_4
      refine j_iconst X (v := 0) (by decide) dX8_set_39 ?_
      refine j_istore_n X [(3, .int 0), (0, .ref (ad 79)), (1, .int i1), (2, .int i2)] rfl (by decide) rfl dX8_set_40 ?_
      refine j_iload_n X 0 rfl rfl dX8_set_41 ?_
      refine j_if_eq X 57 (by decide) dX8_set_42 (fun _ => ?_) (fun q_5 => False.elim (by revert q_5; decide))
      refine j_aload_n X 1 rfl rfl dX8_set_57 ?_
      refine j_ldc X (v := (-1000000001)) aw_132 dX8_set_58 ?_
      refine j_callVI X (nn := 1) (As := [.int (-1000000001)]) (st := []) (ci := 8) cl_79.1 (wE_8 _ cl_79.2) rfl aw_144 aw_145 (x_X8_errs l D y ad (-1000000001) _ _ h) aw_143 aw_146 aw_5 (by decide +kernel) ⟨Nat.le_of_ble_eq_true rfl, Nat.le_of_ble_eq_true rfl⟩ rfl (Nat.le_of_ble_eq_true rfl) ⟨Nat.le_of_ble_eq_true rfl, Nat.le_of_ble_eq_true rfl⟩ dX8_set_60 ?_
      intro r6 M6 h
      exact j_iret X hr hlocks dX8_set_63 h
    · replace h := h.2 q_4
      refine j_iload_n X 2 rfl rfl dX8_set_25 ?_
      refine j_iconst X (v := 0) (by decide) dX8_set_26 ?_
      refine j_ldc X (v := 99999) aw_131 dX8_set_27 ?_
      refine j_callSI X (nn := 3) (As := [.int i2, .int 0, .int 99999]) (st := []) aw_134 (x_X8_in l D y ad i2 0 99999 _ _ h) aw_133 aw_135 aw_5 (by decide +kernel) ⟨Nat.le_of_ble_eq_true rfl, Nat.le_of_ble_eq_true rfl⟩ rfl (Nat.le_of_ble_eq_true rfl) ⟨Nat.le_of_ble_eq_true rfl, Nat.le_of_ble_eq_true rfl⟩ dX8_set_29 ?_
      intro r7 M7 h
      refine j_if_eq X 39 (by decide) dX8_set_32 (fun q_8 => ?_) (fun q_8 => ?_)
      · replace h := h.1 q_8
        refine j_iconst X (v := 0) (by decide) dX8_set_39 ?_
        refine j_istore_n X [(3, .int 0), (0, .ref (ad 79)), (1, .int i1), (2, .int i2)] rfl (by decide) rfl dX8_set_40 ?_
        refine j_iload_n X 0 rfl rfl dX8_set_41 ?_
        refine j_if_eq X 57 (by decide) dX8_set_42 (fun _ => ?_) (fun q_9 => False.elim (by revert q_9; decide))
        refine j_aload_n X 1 rfl rfl dX8_set_57 ?_
        refine j_ldc X (v := (-1000000001)) aw_132 dX8_set_58 ?_
        refine j_callVI X (nn := 1) (As := [.int (-1000000001)]) (st := []) (ci := 8) cl_79.1 (wE_8 _ cl_79.2) rfl aw_144 aw_145 (x_X8_errs l D y ad (-1000000001) _ _ h) aw_143 aw_146 aw_5 (by decide +kernel) ⟨Nat.le_of_ble_eq_true rfl, Nat.le_of_ble_eq_true rfl⟩ rfl (Nat.le_of_ble_eq_true rfl) ⟨Nat.le_of_ble_eq_true rfl, Nat.le_of_ble_eq_true rfl⟩ dX8_set_60 ?_
        intro r10 M10 h
        exact j_iret X hr hlocks dX8_set_63 h
      · replace h := h.2 q_8
        refine j_iconst X (v := 1) (by decide) dX8_set_35 ?_
        refine j_goto X 40 (by decide) dX8_set_36 ?_
        refine j_istore_n X [(3, .int 1), (0, .ref (ad 79)), (1, .int i1), (2, .int i2)] rfl (by decide) rfl dX8_set_40 ?_
        refine j_iload_n X 0 rfl rfl dX8_set_41 ?_
        refine j_if_eq X 57 (by decide) dX8_set_42 (fun q_11 => False.elim (by revert q_11; decide)) (fun _ => ?_)
        refine j_aload_n X 1 rfl rfl dX8_set_45 ?_
        refine j_bipush X (v := 7) (by decide) dX8_set_46 ?_
        refine j_iload_n X 2 rfl rfl dX8_set_48 ?_
        refine j_iadd X dX8_set_49 ?_
        refine j_iload_n X 3 rfl rfl dX8_set_50 ?_
        refine j_callVI X (nn := 2) (As := [.int (7 + i1), .int i2]) (st := []) (ci := 8) cl_79.1 (wE_8 _ cl_79.2) rfl aw_140 aw_141 (x_X8_becomes l D y ad (7 + i1) i2 _ _ h) aw_139 aw_142 aw_5 (by decide +kernel) ⟨Nat.le_of_ble_eq_true rfl, Nat.le_of_ble_eq_true rfl⟩ rfl (Nat.le_of_ble_eq_true rfl) ⟨Nat.le_of_ble_eq_true rfl, Nat.le_of_ble_eq_true rfl⟩ dX8_set_51 ?_
        intro r12 M12 h
        refine j_goto X 63 (by decide) dX8_set_54 ?_
        exact j_iret X hr hlocks dX8_set_63 h
  · replace h := h.2 q_2
    refine j_iload_n X 2 rfl rfl dX8_set_9 ?_
    refine j_callSI X (nn := 1) (As := [.int i2]) (st := []) aw_137 (x_X8_isArea l D y ad i2 _ _ h) aw_136 aw_138 aw_5 (by decide +kernel) ⟨Nat.le_of_ble_eq_true rfl, Nat.le_of_ble_eq_true rfl⟩ rfl (Nat.le_of_ble_eq_true rfl) ⟨Nat.le_of_ble_eq_true rfl, Nat.le_of_ble_eq_true rfl⟩ dX8_set_10 ?_
    intro r13 M13 h
    refine j_goto X 40 (by decide) dX8_set_13 ?_
    refine j_istore_n X [(3, .int r13), (0, .ref (ad 79)), (1, .int i1), (2, .int i2)] rfl (by decide) rfl dX8_set_40 ?_
    refine j_iload_n X 0 rfl rfl dX8_set_41 ?_
    refine j_if_eq X 57 (by decide) dX8_set_42 (fun q_14 => ?_) (fun q_14 => ?_)
    · replace h := h.1 q_14
      refine j_aload_n X 1 rfl rfl dX8_set_57 ?_
      refine j_ldc X (v := (-1000000001)) aw_132 dX8_set_58 ?_
      refine j_callVI X (nn := 1) (As := [.int (-1000000001)]) (st := []) (ci := 8) cl_79.1 (wE_8 _ cl_79.2) rfl aw_144 aw_145 (x_X8_errs l D y ad (-1000000001) _ _ h) aw_143 aw_146 aw_5 (by decide +kernel) ⟨Nat.le_of_ble_eq_true rfl, Nat.le_of_ble_eq_true rfl⟩ rfl (Nat.le_of_ble_eq_true rfl) ⟨Nat.le_of_ble_eq_true rfl, Nat.le_of_ble_eq_true rfl⟩ dX8_set_60 ?_
      intro r15 M15 h
      exact j_iret X hr hlocks dX8_set_63 h
    · replace h := h.2 q_14
      refine j_aload_n X 1 rfl rfl dX8_set_45 ?_
      refine j_bipush X (v := 7) (by decide) dX8_set_46 ?_
      refine j_iload_n X 2 rfl rfl dX8_set_48 ?_
      refine j_iadd X dX8_set_49 ?_
      refine j_iload_n X 3 rfl rfl dX8_set_50 ?_
      refine j_callVI X (nn := 2) (As := [.int (7 + i1), .int i2]) (st := []) (ci := 8) cl_79.1 (wE_8 _ cl_79.2) rfl aw_140 aw_141 (x_X8_becomes l D y ad (7 + i1) i2 _ _ h) aw_139 aw_142 aw_5 (by decide +kernel) ⟨Nat.le_of_ble_eq_true rfl, Nat.le_of_ble_eq_true rfl⟩ rfl (Nat.le_of_ble_eq_true rfl) ⟨Nat.le_of_ble_eq_true rfl, Nat.le_of_ble_eq_true rfl⟩ dX8_set_51 ?_
      intro r16 M16 h
      refine j_goto X 63 (by decide) dX8_set_54 ?_
      exact j_iret X hr hlocks dX8_set_63 h
theorem dX8_inArea_18 : decode cX8_inArea 18 = .ok (.iload_n 3, 1) := dk_29 (by decide +kernel)
theorem dX8_inArea_19 : decode cX8_inArea 19 = .ok (.aload_n 0, 1) := dk_42 (by decide +kernel)
theorem dX8_inArea_20 : decode cX8_inArea 20 = .ok (.getfield 7, 3) := dk_180 (by decide +kernel)
theorem dX8_inArea_23 : decode cX8_inArea 23 = .ok (.iconst 2, 1) := dk_5 (by decide +kernel)
theorem dX8_inArea_24 : decode cX8_inArea 24 = .ok (.iaload, 1) := dk_46 (by decide +kernel)
theorem dX8_inArea_25 : decode cX8_inArea 25 = .ok (.if_icmp .ge 29, 3) := dk_162 (by decide +kernel)
theorem dX8_inArea_54 : decode cX8_inArea 54 = .ok (.iload_n 2, 1) := dk_28 (by decide +kernel)
theorem dX8_inArea_55 : decode cX8_inArea 55 = .ok (.ireturn, 1) := dk_172 (by decide +kernel)
theorem dX8_inArea_28 : decode cX8_inArea 28 = .ok (.iload_n 2, 1) := dk_28 (by decide +kernel)
theorem dX8_inArea_29 : decode cX8_inArea 29 = .ok (.aload_n 0, 1) := dk_42 (by decide +kernel)
theorem dX8_inArea_30 : decode cX8_inArea 30 = .ok (.iload_n 3, 1) := dk_29 (by decide +kernel)
theorem dX8_inArea_31 : decode cX8_inArea 31 = .ok (.iconst 2, 1) := dk_5 (by decide +kernel)
theorem dX8_inArea_32 : decode cX8_inArea 32 = .ok (.invokevirtual 65, 3) := dk_182 (by decide +kernel)
theorem dX8_inArea_35 : decode cX8_inArea 35 = .ok (.iload_n 1, 1) := dk_27 (by decide +kernel)
theorem dX8_inArea_36 : decode cX8_inArea 36 = .ok (.if_icmp .ne 9, 3) := dk_160 (by decide +kernel)
theorem dX8_inArea_45 : decode cX8_inArea 45 = .ok (.iconst 0, 1) := dk_3 (by decide +kernel)
theorem dX8_inArea_46 : decode cX8_inArea 46 = .ok (.ior, 1) := dk_128 (by decide +kernel)
theorem dX8_inArea_47 : decode cX8_inArea 47 = .ok (.istore_n 2, 1) := dk_61 (by decide +kernel)
theorem dX8_inArea_48 : decode cX8_inArea 48 = .ok (.iinc 3 1, 3) := dk_132 (by decide +kernel)
theorem dX8_inArea_51 : decode cX8_inArea 51 = .ok (.goto (-33), 3) := dk_167 (by decide +kernel)
theorem dX8_inArea_39 : decode cX8_inArea 39 = .ok (.iconst 1, 1) := dk_4 (by decide +kernel)
theorem dX8_inArea_40 : decode cX8_inArea 40 = .ok (.iload_n 3, 1) := dk_29 (by decide +kernel)
theorem dX8_inArea_41 : decode cX8_inArea 41 = .ok (.ishl, 1) := dk_120 (by decide +kernel)
theorem dX8_inArea_42 : decode cX8_inArea 42 = .ok (.goto 4, 3) := dk_167 (by decide +kernel)
theorem dX8_inArea_0 : decode cX8_inArea 0 = .ok (.iload_n 1, 1) := dk_27 (by decide +kernel)
theorem dX8_inArea_1 : decode cX8_inArea 1 = .ok (.invokestatic 51, 3) := dk_184 (by decide +kernel)
theorem dX8_inArea_4 : decode cX8_inArea 4 = .ok (.ifCond .ne 10, 3) := dk_154 (by decide +kernel)
theorem dX8_inArea_14 : decode cX8_inArea 14 = .ok (.iconst 0, 1) := dk_3 (by decide +kernel)
theorem dX8_inArea_15 : decode cX8_inArea 15 = .ok (.istore_n 2, 1) := dk_61 (by decide +kernel)
theorem dX8_inArea_16 : decode cX8_inArea 16 = .ok (.iconst 0, 1) := dk_3 (by decide +kernel)
theorem dX8_inArea_17 : decode cX8_inArea 17 = .ok (.istore_n 3, 1) := dk_62 (by decide +kernel)
theorem dX8_inArea_7 : decode cX8_inArea 7 = .ok (.aload_n 0, 1) := dk_42 (by decide +kernel)
theorem dX8_inArea_8 : decode cX8_inArea 8 = .ok (.ldc 60, 2) := dk_18 (by decide +kernel)
theorem dX8_inArea_10 : decode cX8_inArea 10 = .ok (.invokevirtual 61, 3) := dk_182 (by decide +kernel)
theorem dX8_inArea_13 : decode cX8_inArea 13 = .ok (.ireturn, 1) := dk_172 (by decide +kernel)
set_option maxRecDepth 100000 in
set_option maxHeartbeats 8000000 in
theorem x_X8_inArea (l : Launch) (D : va_G) (y : wY) (ad : Nat → Nat) (i1 : Int32) (M : Mem) (K : Int32 → Mem → Prop) (h : wp_X8_inArea i1 M K) : MI l D y ad yX8_inArea (Cond.code yX8_inArea cX8_inArea 4 (some .int)) 2 M [.ref (ad 79), .int i1] K := by
  refine MI_of (by decide) (Nat.le_of_ble_eq_true rfl) ?_
  intro p e s m args below meth c X hr hlocks
  have hL18 : ∀ (i1 : Int32) (n : Nat) (i2 : Int32) (i3 : Int32) (Mb : Mem), wp_X8_inArea_L18 K i1 n i2 i3 Mb → J p l e (rmN 2) s m args below meth c 0 0 (QI K D y ad M s args below) D y ad (va_A (PL y ad M) s.heap.size) 4 Mb 18 [(0, .ref (ad 79)), (1, .int i1), (2, .int i2), (3, .int i3)] [] := by
    intro i1 n
    induction n with
    | zero => intro i2 i3 Mb h; exact False.elim h
    | succ n hB18 =>
      intro i2 i3 Mb h
      replace h : wp_X8_inArea_l18 K i1 (wp_X8_inArea_L18 K i1 n) i2 i3 Mb := h
      delta wp_X8_inArea_l18 at h
      refine j_iload_n X 3 rfl rfl dX8_inArea_18 ?_
      refine j_aload_n X 0 rfl rfl dX8_inArea_19 ?_
      refine j_get X cl_79.1 (wE_8 _ cl_79.2) rfl awF8 0 (by decide) aw_92 rfl (v := .ref (ad 80)) rfl dX8_inArea_20 ?_
      refine j_iconst X (v := 2) (by decide) dX8_inArea_23 ?_
      refine j_iald X cl_80.1 cl_80.2 (by unfold vp_in; decide) dX8_inArea_24 ?_
      refine j_eqi (v := Mb 80 2) rfl ?_
      refine j_icmp_ge X 54 (by decide) dX8_inArea_25 (fun q_1801 => ?_) (fun q_1801 => ?_)
      · replace h := h.1 q_1801
        refine j_iload_n X 2 rfl rfl dX8_inArea_54 ?_
        exact j_iret X hr hlocks dX8_inArea_55 h
      · replace h := h.2 q_1801
        refine j_iload_n X 2 rfl rfl dX8_inArea_28 ?_
        refine j_aload_n X 0 rfl rfl dX8_inArea_29 ?_
        refine j_iload_n X 3 rfl rfl dX8_inArea_30 ?_
        refine j_iconst X (v := 2) (by decide) dX8_inArea_31 ?_
        refine j_callVI X (nn := 2) (As := [.int i3, .int 2]) (st := [.int i2]) (ci := 8) cl_79.1 (wE_8 _ cl_79.2) rfl aw_161 aw_162 (x_X8_its l D y ad i3 2 _ _ h) aw_160 aw_163 aw_5 (by decide +kernel) ⟨Nat.le_of_ble_eq_true rfl, Nat.le_of_ble_eq_true rfl⟩ rfl (Nat.le_of_ble_eq_true rfl) ⟨Nat.le_of_ble_eq_true rfl, Nat.le_of_ble_eq_true rfl⟩ dX8_inArea_32 ?_
        intro r1802 M1802 h
        refine j_iload_n X 1 rfl rfl dX8_inArea_35 ?_
        refine j_icmp_ne X 45 (by decide) dX8_inArea_36 (fun q_1803 => ?_) (fun q_1803 => ?_)
        · replace h := h.1 q_1803
          refine j_iconst X (v := 0) (by decide) dX8_inArea_45 ?_
          refine j_ior X dX8_inArea_46 ?_
          refine j_istore_n X [(2, .int (i2 ||| 0)), (0, .ref (ad 79)), (1, .int i1), (3, .int i3)] rfl (by decide) rfl dX8_inArea_47 ?_
          refine j_iinc X (v := (i3 + 1)) 3 [(3, .int (i3 + 1)), (2, .int (i2 ||| 0)), (0, .ref (ad 79)), (1, .int i1)] rfl rfl (by decide) rfl dX8_inArea_48 ?_
          refine j_goto X 18 (by decide) dX8_inArea_51 ?_
          refine j_lv (lv1 := [(0, .ref (ad 79)), (1, .int i1), (2, .int (i2 ||| 0)), (3, .int (i3 + 1))]) [2, 3, 1, 0] rfl ?_
          exact hB18 _ _ _ h
        · replace h := h.2 q_1803
          refine j_iconst X (v := 1) (by decide) dX8_inArea_39 ?_
          refine j_iload_n X 3 rfl rfl dX8_inArea_40 ?_
          refine j_ishl X dX8_inArea_41 ?_
          refine j_goto X 46 (by decide) dX8_inArea_42 ?_
          refine j_ior X dX8_inArea_46 ?_
          refine j_istore_n X [(2, .int (i2 ||| ((1 : Int32) <<< (i3 &&& 31)))), (0, .ref (ad 79)), (1, .int i1), (3, .int i3)] rfl (by decide) rfl dX8_inArea_47 ?_
          refine j_iinc X (v := (i3 + 1)) 3 [(3, .int (i3 + 1)), (2, .int (i2 ||| ((1 : Int32) <<< (i3 &&& 31)))), (0, .ref (ad 79)), (1, .int i1)] rfl rfl (by decide) rfl dX8_inArea_48 ?_
          refine j_goto X 18 (by decide) dX8_inArea_51 ?_
          refine j_lv (lv1 := [(0, .ref (ad 79)), (1, .int i1), (2, .int (i2 ||| ((1 : Int32) <<< (i3 &&& 31)))), (3, .int (i3 + 1))]) [2, 3, 1, 0] rfl ?_
          exact hB18 _ _ _ h
  delta wp_X8_inArea at h
  refine j_lv (lv1 := [(0, .ref (ad 79)), (1, .int i1)]) [0, 1] rfl ?_
  refine j_iload_n X 1 rfl rfl dX8_inArea_0 ?_
  refine j_callSI X (nn := 1) (As := [.int i1]) (st := []) aw_137 (x_X8_isArea l D y ad i1 _ _ h) aw_136 aw_138 aw_5 (by decide +kernel) ⟨Nat.le_of_ble_eq_true rfl, Nat.le_of_ble_eq_true rfl⟩ rfl (Nat.le_of_ble_eq_true rfl) ⟨Nat.le_of_ble_eq_true rfl, Nat.le_of_ble_eq_true rfl⟩ dX8_inArea_1 ?_
  intro r1 M1 h
  refine j_if_ne X 14 (by decide) dX8_inArea_4 (fun q_2 => ?_) (fun q_2 => ?_)
  · replace h := h.1 q_2
    refine j_iconst X (v := 0) (by decide) dX8_inArea_14 ?_
    refine j_istore_n X [(2, .int 0), (0, .ref (ad 79)), (1, .int i1)] rfl (by decide) rfl dX8_inArea_15 ?_
    refine j_iconst X (v := 0) (by decide) dX8_inArea_16 ?_
    refine j_istore_n X [(3, .int 0), (2, .int 0), (0, .ref (ad 79)), (1, .int i1)] rfl (by decide) rfl dX8_inArea_17 ?_
    refine j_lv (lv1 := [(0, .ref (ad 79)), (1, .int i1), (2, .int 0), (3, .int 0)]) [2, 3, 1, 0] rfl ?_
    obtain ⟨n18, h⟩ := h
    exact hL18 _   n18 _ _ _ h
  · replace h := h.2 q_2
    refine j_aload_n X 0 rfl rfl dX8_inArea_7 ?_
    refine j_ldc X (v := (-1000000001)) aw_132 dX8_inArea_8 ?_
    refine j_callVI X (nn := 1) (As := [.int (-1000000001)]) (st := []) (ci := 8) cl_79.1 (wE_8 _ cl_79.2) rfl aw_144 aw_145 (x_X8_errs l D y ad (-1000000001) _ _ h) aw_143 aw_146 aw_5 (by decide +kernel) ⟨Nat.le_of_ble_eq_true rfl, Nat.le_of_ble_eq_true rfl⟩ rfl (Nat.le_of_ble_eq_true rfl) ⟨Nat.le_of_ble_eq_true rfl, Nat.le_of_ble_eq_true rfl⟩ dX8_inArea_10 ?_
    intro r3 M3 h
    exact j_iret X hr hlocks dX8_inArea_13 h
theorem dX8_quarrel_0 : decode cX8_quarrel 0 = .ok (.iload_n 1, 1) := dk_27 (by decide +kernel)
theorem dX8_quarrel_1 : decode cX8_quarrel 1 = .ok (.iconst 0, 1) := dk_3 (by decide +kernel)
theorem dX8_quarrel_2 : decode cX8_quarrel 2 = .ok (.bipush 69, 2) := dk_16 (by decide +kernel)
theorem dX8_quarrel_4 : decode cX8_quarrel 4 = .ok (.invokestatic 47, 3) := dk_184 (by decide +kernel)
theorem dX8_quarrel_7 : decode cX8_quarrel 7 = .ok (.ifCond .eq 37, 3) := dk_153 (by decide +kernel)
theorem dX8_quarrel_44 : decode cX8_quarrel 44 = .ok (.aload_n 0, 1) := dk_42 (by decide +kernel)
theorem dX8_quarrel_45 : decode cX8_quarrel 45 = .ok (.ldc 60, 2) := dk_18 (by decide +kernel)
theorem dX8_quarrel_47 : decode cX8_quarrel 47 = .ok (.invokevirtual 61, 3) := dk_182 (by decide +kernel)
theorem dX8_quarrel_50 : decode cX8_quarrel 50 = .ok (.ireturn, 1) := dk_172 (by decide +kernel)
theorem dX8_quarrel_10 : decode cX8_quarrel 10 = .ok (.iload_n 2, 1) := dk_28 (by decide +kernel)
theorem dX8_quarrel_11 : decode cX8_quarrel 11 = .ok (.invokestatic 51, 3) := dk_184 (by decide +kernel)
theorem dX8_quarrel_14 : decode cX8_quarrel 14 = .ok (.ifCond .eq 30, 3) := dk_153 (by decide +kernel)
theorem dX8_quarrel_17 : decode cX8_quarrel 17 = .ok (.iload_n 3, 1) := dk_29 (by decide +kernel)
theorem dX8_quarrel_18 : decode cX8_quarrel 18 = .ok (.iconst 0, 1) := dk_3 (by decide +kernel)
theorem dX8_quarrel_19 : decode cX8_quarrel 19 = .ok (.bipush 99, 2) := dk_16 (by decide +kernel)
theorem dX8_quarrel_21 : decode cX8_quarrel 21 = .ok (.invokestatic 47, 3) := dk_184 (by decide +kernel)
theorem dX8_quarrel_24 : decode cX8_quarrel 24 = .ok (.ifCond .eq 20, 3) := dk_153 (by decide +kernel)
theorem dX8_quarrel_27 : decode cX8_quarrel 27 = .ok (.iload 4, 2) := dk_21 (by decide +kernel)
theorem dX8_quarrel_29 : decode cX8_quarrel 29 = .ok (.iconst (-1), 1) := dk_2 (by decide +kernel)
theorem dX8_quarrel_30 : decode cX8_quarrel 30 = .ok (.aload_n 0, 1) := dk_42 (by decide +kernel)
theorem dX8_quarrel_31 : decode cX8_quarrel 31 = .ok (.getfield 7, 3) := dk_180 (by decide +kernel)
theorem dX8_quarrel_34 : decode cX8_quarrel 34 = .ok (.iconst 2, 1) := dk_5 (by decide +kernel)
theorem dX8_quarrel_35 : decode cX8_quarrel 35 = .ok (.iaload, 1) := dk_46 (by decide +kernel)
theorem dX8_quarrel_36 : decode cX8_quarrel 36 = .ok (.iconst 1, 1) := dk_4 (by decide +kernel)
theorem dX8_quarrel_37 : decode cX8_quarrel 37 = .ok (.isub, 1) := dk_100 (by decide +kernel)
theorem dX8_quarrel_38 : decode cX8_quarrel 38 = .ok (.invokestatic 47, 3) := dk_184 (by decide +kernel)
theorem dX8_quarrel_41 : decode cX8_quarrel 41 = .ok (.ifCond .ne 10, 3) := dk_154 (by decide +kernel)
theorem dX8_quarrel_51 : decode cX8_quarrel 51 = .ok (.aload_n 0, 1) := dk_42 (by decide +kernel)
theorem dX8_quarrel_52 : decode cX8_quarrel 52 = .ok (.getfield 7, 3) := dk_180 (by decide +kernel)
theorem dX8_quarrel_55 : decode cX8_quarrel 55 = .ok (.iconst 2, 1) := dk_5 (by decide +kernel)
theorem dX8_quarrel_56 : decode cX8_quarrel 56 = .ok (.iaload, 1) := dk_46 (by decide +kernel)
theorem dX8_quarrel_57 : decode cX8_quarrel 57 = .ok (.bipush 9, 2) := dk_16 (by decide +kernel)
theorem dX8_quarrel_59 : decode cX8_quarrel 59 = .ok (.if_icmp .ne 10, 3) := dk_160 (by decide +kernel)
theorem dX8_quarrel_69 : decode cX8_quarrel 69 = .ok (.aload_n 0, 1) := dk_42 (by decide +kernel)
theorem dX8_quarrel_70 : decode cX8_quarrel 70 = .ok (.getfield 7, 3) := dk_180 (by decide +kernel)
theorem dX8_quarrel_73 : decode cX8_quarrel 73 = .ok (.iconst 2, 1) := dk_5 (by decide +kernel)
theorem dX8_quarrel_74 : decode cX8_quarrel 74 = .ok (.iaload, 1) := dk_46 (by decide +kernel)
theorem dX8_quarrel_75 : decode cX8_quarrel 75 = .ok (.istore 5, 2) := dk_54 (by decide +kernel)
theorem dX8_quarrel_77 : decode cX8_quarrel 77 = .ok (.aload_n 0, 1) := dk_42 (by decide +kernel)
theorem dX8_quarrel_78 : decode cX8_quarrel 78 = .ok (.iload 5, 2) := dk_21 (by decide +kernel)
theorem dX8_quarrel_80 : decode cX8_quarrel 80 = .ok (.iconst 0, 1) := dk_3 (by decide +kernel)
theorem dX8_quarrel_81 : decode cX8_quarrel 81 = .ok (.iload_n 1, 1) := dk_27 (by decide +kernel)
theorem dX8_quarrel_82 : decode cX8_quarrel 82 = .ok (.bipush 10, 2) := dk_16 (by decide +kernel)
theorem dX8_quarrel_84 : decode cX8_quarrel 84 = .ok (.idiv, 1) := dk_108 (by decide +kernel)
theorem dX8_quarrel_85 : decode cX8_quarrel 85 = .ok (.invokevirtual 69, 3) := dk_182 (by decide +kernel)
theorem dX8_quarrel_88 : decode cX8_quarrel 88 = .ok (.aload_n 0, 1) := dk_42 (by decide +kernel)
theorem dX8_quarrel_89 : decode cX8_quarrel 89 = .ok (.iload 5, 2) := dk_21 (by decide +kernel)
theorem dX8_quarrel_91 : decode cX8_quarrel 91 = .ok (.iconst 1, 1) := dk_4 (by decide +kernel)
theorem dX8_quarrel_92 : decode cX8_quarrel 92 = .ok (.iload_n 1, 1) := dk_27 (by decide +kernel)
theorem dX8_quarrel_93 : decode cX8_quarrel 93 = .ok (.bipush 10, 2) := dk_16 (by decide +kernel)
theorem dX8_quarrel_95 : decode cX8_quarrel 95 = .ok (.irem, 1) := dk_112 (by decide +kernel)
theorem dX8_quarrel_96 : decode cX8_quarrel 96 = .ok (.invokevirtual 69, 3) := dk_182 (by decide +kernel)
theorem dX8_quarrel_99 : decode cX8_quarrel 99 = .ok (.aload_n 0, 1) := dk_42 (by decide +kernel)
theorem dX8_quarrel_100 : decode cX8_quarrel 100 = .ok (.iload 5, 2) := dk_21 (by decide +kernel)
theorem dX8_quarrel_102 : decode cX8_quarrel 102 = .ok (.iconst 2, 1) := dk_5 (by decide +kernel)
theorem dX8_quarrel_103 : decode cX8_quarrel 103 = .ok (.iload_n 2, 1) := dk_28 (by decide +kernel)
theorem dX8_quarrel_104 : decode cX8_quarrel 104 = .ok (.invokevirtual 69, 3) := dk_182 (by decide +kernel)
theorem dX8_quarrel_107 : decode cX8_quarrel 107 = .ok (.aload_n 0, 1) := dk_42 (by decide +kernel)
theorem dX8_quarrel_108 : decode cX8_quarrel 108 = .ok (.iload 5, 2) := dk_21 (by decide +kernel)
theorem dX8_quarrel_110 : decode cX8_quarrel 110 = .ok (.iconst 3, 1) := dk_6 (by decide +kernel)
theorem dX8_quarrel_111 : decode cX8_quarrel 111 = .ok (.iload_n 3, 1) := dk_29 (by decide +kernel)
theorem dX8_quarrel_112 : decode cX8_quarrel 112 = .ok (.invokevirtual 69, 3) := dk_182 (by decide +kernel)
theorem dX8_quarrel_115 : decode cX8_quarrel 115 = .ok (.aload_n 0, 1) := dk_42 (by decide +kernel)
theorem dX8_quarrel_116 : decode cX8_quarrel 116 = .ok (.iload 5, 2) := dk_21 (by decide +kernel)
theorem dX8_quarrel_118 : decode cX8_quarrel 118 = .ok (.iconst 4, 1) := dk_7 (by decide +kernel)
theorem dX8_quarrel_119 : decode cX8_quarrel 119 = .ok (.iload 4, 2) := dk_21 (by decide +kernel)
theorem dX8_quarrel_121 : decode cX8_quarrel 121 = .ok (.invokevirtual 69, 3) := dk_182 (by decide +kernel)
theorem dX8_quarrel_124 : decode cX8_quarrel 124 = .ok (.aload_n 0, 1) := dk_42 (by decide +kernel)
theorem dX8_quarrel_125 : decode cX8_quarrel 125 = .ok (.iload 5, 2) := dk_21 (by decide +kernel)
theorem dX8_quarrel_127 : decode cX8_quarrel 127 = .ok (.iconst 5, 1) := dk_8 (by decide +kernel)
theorem dX8_quarrel_128 : decode cX8_quarrel 128 = .ok (.iconst 0, 1) := dk_3 (by decide +kernel)
theorem dX8_quarrel_129 : decode cX8_quarrel 129 = .ok (.invokevirtual 69, 3) := dk_182 (by decide +kernel)
theorem dX8_quarrel_132 : decode cX8_quarrel 132 = .ok (.aload_n 0, 1) := dk_42 (by decide +kernel)
theorem dX8_quarrel_133 : decode cX8_quarrel 133 = .ok (.iload 5, 2) := dk_21 (by decide +kernel)
theorem dX8_quarrel_135 : decode cX8_quarrel 135 = .ok (.bipush 6, 2) := dk_16 (by decide +kernel)
theorem dX8_quarrel_137 : decode cX8_quarrel 137 = .ok (.iconst 0, 1) := dk_3 (by decide +kernel)
theorem dX8_quarrel_138 : decode cX8_quarrel 138 = .ok (.invokevirtual 69, 3) := dk_182 (by decide +kernel)
theorem dX8_quarrel_141 : decode cX8_quarrel 141 = .ok (.aload_n 0, 1) := dk_42 (by decide +kernel)
theorem dX8_quarrel_142 : decode cX8_quarrel 142 = .ok (.getfield 7, 3) := dk_180 (by decide +kernel)
theorem dX8_quarrel_145 : decode cX8_quarrel 145 = .ok (.iconst 2, 1) := dk_5 (by decide +kernel)
theorem dX8_quarrel_146 : decode cX8_quarrel 146 = .ok (.dup2, 1) := dk_92 (by decide +kernel)
theorem dX8_quarrel_147 : decode cX8_quarrel 147 = .ok (.iaload, 1) := dk_46 (by decide +kernel)
theorem dX8_quarrel_148 : decode cX8_quarrel 148 = .ok (.iconst 1, 1) := dk_4 (by decide +kernel)
theorem dX8_quarrel_149 : decode cX8_quarrel 149 = .ok (.iadd, 1) := dk_96 (by decide +kernel)
theorem dX8_quarrel_150 : decode cX8_quarrel 150 = .ok (.iastore, 1) := dk_79 (by decide +kernel)
theorem dX8_quarrel_151 : decode cX8_quarrel 151 = .ok (.iload 5, 2) := dk_21 (by decide +kernel)
theorem dX8_quarrel_153 : decode cX8_quarrel 153 = .ok (.ireturn, 1) := dk_172 (by decide +kernel)
theorem dX8_quarrel_62 : decode cX8_quarrel 62 = .ok (.aload_n 0, 1) := dk_42 (by decide +kernel)
theorem dX8_quarrel_63 : decode cX8_quarrel 63 = .ok (.ldc 68, 2) := dk_18 (by decide +kernel)
theorem dX8_quarrel_65 : decode cX8_quarrel 65 = .ok (.invokevirtual 61, 3) := dk_182 (by decide +kernel)
theorem dX8_quarrel_68 : decode cX8_quarrel 68 = .ok (.ireturn, 1) := dk_172 (by decide +kernel)
set_option maxRecDepth 100000 in
set_option maxHeartbeats 8000000 in
theorem x_X8_quarrel (l : Launch) (D : va_G) (y : wY) (ad : Nat → Nat) (i1 : Int32) (i2 : Int32) (i3 : Int32) (i4 : Int32) (M : Mem) (K : Int32 → Mem → Prop) (h : wp_X8_quarrel i1 i2 i3 i4 M K) : MI l D y ad yX8_quarrel (Cond.code yX8_quarrel cX8_quarrel 6 (some .int)) 2 M [.ref (ad 79), .int i1, .int i2, .int i3, .int i4] K := by
  refine MI_of (by decide) (Nat.le_of_ble_eq_true rfl) ?_
  intro p e s m args below meth c X hr hlocks
  delta wp_X8_quarrel at h
  refine j_lv (lv1 := [(0, .ref (ad 79)), (1, .int i1), (2, .int i2), (3, .int i3), (4, .int i4)]) [0, 1, 2, 3, 4] rfl ?_
  refine j_iload_n X 1 rfl rfl dX8_quarrel_0 ?_
  refine j_iconst X (v := 0) (by decide) dX8_quarrel_1 ?_
  refine j_bipush X (v := 69) (by decide) dX8_quarrel_2 ?_
  refine j_callSI X (nn := 3) (As := [.int i1, .int 0, .int 69]) (st := []) aw_134 (x_X8_in l D y ad i1 0 69 _ _ h) aw_133 aw_135 aw_5 (by decide +kernel) ⟨Nat.le_of_ble_eq_true rfl, Nat.le_of_ble_eq_true rfl⟩ rfl (Nat.le_of_ble_eq_true rfl) ⟨Nat.le_of_ble_eq_true rfl, Nat.le_of_ble_eq_true rfl⟩ dX8_quarrel_4 ?_
  intro r1 M1 h
  refine j_if_eq X 44 (by decide) dX8_quarrel_7 (fun q_2 => ?_) (fun q_2 => ?_)
  · replace h := h.1 q_2
    refine j_aload_n X 0 rfl rfl dX8_quarrel_44 ?_
    refine j_ldc X (v := (-1000000001)) aw_132 dX8_quarrel_45 ?_
    refine j_callVI X (nn := 1) (As := [.int (-1000000001)]) (st := []) (ci := 8) cl_79.1 (wE_8 _ cl_79.2) rfl aw_144 aw_145 (x_X8_errs l D y ad (-1000000001) _ _ h) aw_143 aw_146 aw_5 (by decide +kernel) ⟨Nat.le_of_ble_eq_true rfl, Nat.le_of_ble_eq_true rfl⟩ rfl (Nat.le_of_ble_eq_true rfl) ⟨Nat.le_of_ble_eq_true rfl, Nat.le_of_ble_eq_true rfl⟩ dX8_quarrel_47 ?_
    intro r3 M3 h
    exact j_iret X hr hlocks dX8_quarrel_50 h
  · replace h := h.2 q_2
    refine j_iload_n X 2 rfl rfl dX8_quarrel_10 ?_
    refine j_callSI X (nn := 1) (As := [.int i2]) (st := []) aw_137 (x_X8_isArea l D y ad i2 _ _ h) aw_136 aw_138 aw_5 (by decide +kernel) ⟨Nat.le_of_ble_eq_true rfl, Nat.le_of_ble_eq_true rfl⟩ rfl (Nat.le_of_ble_eq_true rfl) ⟨Nat.le_of_ble_eq_true rfl, Nat.le_of_ble_eq_true rfl⟩ dX8_quarrel_11 ?_
    intro r4 M4 h
    refine j_if_eq X 44 (by decide) dX8_quarrel_14 (fun q_5 => ?_) (fun q_5 => ?_)
    · replace h := h.1 q_5
      refine j_aload_n X 0 rfl rfl dX8_quarrel_44 ?_
      refine j_ldc X (v := (-1000000001)) aw_132 dX8_quarrel_45 ?_
      refine j_callVI X (nn := 1) (As := [.int (-1000000001)]) (st := []) (ci := 8) cl_79.1 (wE_8 _ cl_79.2) rfl aw_144 aw_145 (x_X8_errs l D y ad (-1000000001) _ _ h) aw_143 aw_146 aw_5 (by decide +kernel) ⟨Nat.le_of_ble_eq_true rfl, Nat.le_of_ble_eq_true rfl⟩ rfl (Nat.le_of_ble_eq_true rfl) ⟨Nat.le_of_ble_eq_true rfl, Nat.le_of_ble_eq_true rfl⟩ dX8_quarrel_47 ?_
      intro r6 M6 h
      exact j_iret X hr hlocks dX8_quarrel_50 h
    · replace h := h.2 q_5
      refine j_iload_n X 3 rfl rfl dX8_quarrel_17 ?_
      refine j_iconst X (v := 0) (by decide) dX8_quarrel_18 ?_
      refine j_bipush X (v := 99) (by decide) dX8_quarrel_19 ?_
      refine j_callSI X (nn := 3) (As := [.int i3, .int 0, .int 99]) (st := []) aw_134 (x_X8_in l D y ad i3 0 99 _ _ h) aw_133 aw_135 aw_5 (by decide +kernel) ⟨Nat.le_of_ble_eq_true rfl, Nat.le_of_ble_eq_true rfl⟩ rfl (Nat.le_of_ble_eq_true rfl) ⟨Nat.le_of_ble_eq_true rfl, Nat.le_of_ble_eq_true rfl⟩ dX8_quarrel_21 ?_
      intro r7 M7 h
      refine j_if_eq X 44 (by decide) dX8_quarrel_24 (fun q_8 => ?_) (fun q_8 => ?_)
      · replace h := h.1 q_8
        refine j_aload_n X 0 rfl rfl dX8_quarrel_44 ?_
        refine j_ldc X (v := (-1000000001)) aw_132 dX8_quarrel_45 ?_
        refine j_callVI X (nn := 1) (As := [.int (-1000000001)]) (st := []) (ci := 8) cl_79.1 (wE_8 _ cl_79.2) rfl aw_144 aw_145 (x_X8_errs l D y ad (-1000000001) _ _ h) aw_143 aw_146 aw_5 (by decide +kernel) ⟨Nat.le_of_ble_eq_true rfl, Nat.le_of_ble_eq_true rfl⟩ rfl (Nat.le_of_ble_eq_true rfl) ⟨Nat.le_of_ble_eq_true rfl, Nat.le_of_ble_eq_true rfl⟩ dX8_quarrel_47 ?_
        intro r9 M9 h
        exact j_iret X hr hlocks dX8_quarrel_50 h
      · replace h := h.2 q_8
        refine j_iload X 4 rfl dX8_quarrel_27 ?_
        refine j_iconst X (v := (-1)) (by decide) dX8_quarrel_29 ?_
        refine j_aload_n X 0 rfl rfl dX8_quarrel_30 ?_
        refine j_get X cl_79.1 (wE_8 _ cl_79.2) rfl awF8 0 (by decide) aw_92 rfl (v := .ref (ad 80)) rfl dX8_quarrel_31 ?_
        refine j_iconst X (v := 2) (by decide) dX8_quarrel_34 ?_
        refine j_iald X cl_80.1 cl_80.2 (by unfold vp_in; decide) dX8_quarrel_35 ?_
        refine j_eqi (v := M7 80 2) rfl ?_
        refine j_iconst X (v := 1) (by decide) dX8_quarrel_36 ?_
        refine j_isub X dX8_quarrel_37 ?_
        refine j_callSI X (nn := 3) (As := [.int i4, .int (-1), .int ((M7 80 2) - 1)]) (st := []) aw_134 (x_X8_in l D y ad i4 (-1) ((M7 80 2) - 1) _ _ h) aw_133 aw_135 aw_5 (by decide +kernel) ⟨Nat.le_of_ble_eq_true rfl, Nat.le_of_ble_eq_true rfl⟩ rfl (Nat.le_of_ble_eq_true rfl) ⟨Nat.le_of_ble_eq_true rfl, Nat.le_of_ble_eq_true rfl⟩ dX8_quarrel_38 ?_
        intro r10 M10 h
        refine j_if_ne X 51 (by decide) dX8_quarrel_41 (fun q_11 => ?_) (fun q_11 => ?_)
        · replace h := h.1 q_11
          refine j_aload_n X 0 rfl rfl dX8_quarrel_51 ?_
          refine j_get X cl_79.1 (wE_8 _ cl_79.2) rfl awF8 0 (by decide) aw_92 rfl (v := .ref (ad 80)) rfl dX8_quarrel_52 ?_
          refine j_iconst X (v := 2) (by decide) dX8_quarrel_55 ?_
          refine j_iald X cl_80.1 cl_80.2 (by unfold vp_in; decide) dX8_quarrel_56 ?_
          refine j_eqi (v := M10 80 2) rfl ?_
          refine j_bipush X (v := 9) (by decide) dX8_quarrel_57 ?_
          refine j_icmp_ne X 69 (by decide) dX8_quarrel_59 (fun q_12 => ?_) (fun q_12 => ?_)
          · replace h := h.1 q_12
            refine j_aload_n X 0 rfl rfl dX8_quarrel_69 ?_
            refine j_get X cl_79.1 (wE_8 _ cl_79.2) rfl awF8 0 (by decide) aw_92 rfl (v := .ref (ad 80)) rfl dX8_quarrel_70 ?_
            refine j_iconst X (v := 2) (by decide) dX8_quarrel_73 ?_
            refine j_iald X cl_80.1 cl_80.2 (by unfold vp_in; decide) dX8_quarrel_74 ?_
            refine j_eqi (v := M10 80 2) rfl ?_
            refine j_istore X [(5, .int (M10 80 2)), (0, .ref (ad 79)), (1, .int i1), (2, .int i2), (3, .int i3), (4, .int i4)] (by decide) rfl dX8_quarrel_75 ?_
            refine j_aload_n X 1 rfl rfl dX8_quarrel_77 ?_
            refine j_iload X 0 rfl dX8_quarrel_78 ?_
            refine j_iconst X (v := 0) (by decide) dX8_quarrel_80 ?_
            refine j_iload_n X 2 rfl rfl dX8_quarrel_81 ?_
            refine j_bipush X (v := 10) (by decide) dX8_quarrel_82 ?_
            refine j_idiv X (by decide) dX8_quarrel_84 ?_
            refine j_callVV X (nn := 3) (As := [.int (M10 80 2), .int 0, .int (i1 / 10)]) (st := []) (ci := 8) cl_79.1 (wE_8 _ cl_79.2) rfl aw_183 aw_184 (x_X8_gets l D y ad (M10 80 2) 0 (i1 / 10) _ _ h) aw_182 aw_185 aw_5 (by decide +kernel) ⟨Nat.le_of_ble_eq_true rfl, Nat.le_of_ble_eq_true rfl⟩ rfl (Nat.le_of_ble_eq_true rfl) ⟨Nat.le_of_ble_eq_true rfl, Nat.le_of_ble_eq_true rfl⟩ dX8_quarrel_85 ?_
            intro M13 h
            refine j_aload_n X 1 rfl rfl dX8_quarrel_88 ?_
            refine j_iload X 0 rfl dX8_quarrel_89 ?_
            refine j_iconst X (v := 1) (by decide) dX8_quarrel_91 ?_
            refine j_iload_n X 2 rfl rfl dX8_quarrel_92 ?_
            refine j_bipush X (v := 10) (by decide) dX8_quarrel_93 ?_
            refine j_irem X (by decide) dX8_quarrel_95 ?_
            refine j_callVV X (nn := 3) (As := [.int (M10 80 2), .int 1, .int (i1 - i1 / 10 * 10)]) (st := []) (ci := 8) cl_79.1 (wE_8 _ cl_79.2) rfl aw_183 aw_184 (x_X8_gets l D y ad (M10 80 2) 1 (i1 - i1 / 10 * 10) _ _ h) aw_182 aw_185 aw_5 (by decide +kernel) ⟨Nat.le_of_ble_eq_true rfl, Nat.le_of_ble_eq_true rfl⟩ rfl (Nat.le_of_ble_eq_true rfl) ⟨Nat.le_of_ble_eq_true rfl, Nat.le_of_ble_eq_true rfl⟩ dX8_quarrel_96 ?_
            intro M14 h
            refine j_aload_n X 1 rfl rfl dX8_quarrel_99 ?_
            refine j_iload X 0 rfl dX8_quarrel_100 ?_
            refine j_iconst X (v := 2) (by decide) dX8_quarrel_102 ?_
            refine j_iload_n X 3 rfl rfl dX8_quarrel_103 ?_
            refine j_callVV X (nn := 3) (As := [.int (M10 80 2), .int 2, .int i2]) (st := []) (ci := 8) cl_79.1 (wE_8 _ cl_79.2) rfl aw_183 aw_184 (x_X8_gets l D y ad (M10 80 2) 2 i2 _ _ h) aw_182 aw_185 aw_5 (by decide +kernel) ⟨Nat.le_of_ble_eq_true rfl, Nat.le_of_ble_eq_true rfl⟩ rfl (Nat.le_of_ble_eq_true rfl) ⟨Nat.le_of_ble_eq_true rfl, Nat.le_of_ble_eq_true rfl⟩ dX8_quarrel_104 ?_
            intro M15 h
            refine j_aload_n X 1 rfl rfl dX8_quarrel_107 ?_
            refine j_iload X 0 rfl dX8_quarrel_108 ?_
            refine j_iconst X (v := 3) (by decide) dX8_quarrel_110 ?_
            refine j_iload_n X 4 rfl rfl dX8_quarrel_111 ?_
            refine j_callVV X (nn := 3) (As := [.int (M10 80 2), .int 3, .int i3]) (st := []) (ci := 8) cl_79.1 (wE_8 _ cl_79.2) rfl aw_183 aw_184 (x_X8_gets l D y ad (M10 80 2) 3 i3 _ _ h) aw_182 aw_185 aw_5 (by decide +kernel) ⟨Nat.le_of_ble_eq_true rfl, Nat.le_of_ble_eq_true rfl⟩ rfl (Nat.le_of_ble_eq_true rfl) ⟨Nat.le_of_ble_eq_true rfl, Nat.le_of_ble_eq_true rfl⟩ dX8_quarrel_112 ?_
            intro M16 h
            refine j_aload_n X 1 rfl rfl dX8_quarrel_115 ?_
            refine j_iload X 0 rfl dX8_quarrel_116 ?_
            refine j_iconst X (v := 4) (by decide) dX8_quarrel_118 ?_
            refine j_iload X 5 rfl dX8_quarrel_119 ?_
            refine j_callVV X (nn := 3) (As := [.int (M10 80 2), .int 4, .int i4]) (st := []) (ci := 8) cl_79.1 (wE_8 _ cl_79.2) rfl aw_183 aw_184 (x_X8_gets l D y ad (M10 80 2) 4 i4 _ _ h) aw_182 aw_185 aw_5 (by decide +kernel) ⟨Nat.le_of_ble_eq_true rfl, Nat.le_of_ble_eq_true rfl⟩ rfl (Nat.le_of_ble_eq_true rfl) ⟨Nat.le_of_ble_eq_true rfl, Nat.le_of_ble_eq_true rfl⟩ dX8_quarrel_121 ?_
            intro M17 h
            refine j_aload_n X 1 rfl rfl dX8_quarrel_124 ?_
            refine j_iload X 0 rfl dX8_quarrel_125 ?_
            refine j_iconst X (v := 5) (by decide) dX8_quarrel_127 ?_
            refine j_iconst X (v := 0) (by decide) dX8_quarrel_128 ?_
            refine j_callVV X (nn := 3) (As := [.int (M10 80 2), .int 5, .int 0]) (st := []) (ci := 8) cl_79.1 (wE_8 _ cl_79.2) rfl aw_183 aw_184 (x_X8_gets l D y ad (M10 80 2) 5 0 _ _ h) aw_182 aw_185 aw_5 (by decide +kernel) ⟨Nat.le_of_ble_eq_true rfl, Nat.le_of_ble_eq_true rfl⟩ rfl (Nat.le_of_ble_eq_true rfl) ⟨Nat.le_of_ble_eq_true rfl, Nat.le_of_ble_eq_true rfl⟩ dX8_quarrel_129 ?_
            intro M18 h
            refine j_aload_n X 1 rfl rfl dX8_quarrel_132 ?_
            refine j_iload X 0 rfl dX8_quarrel_133 ?_
            refine j_bipush X (v := 6) (by decide) dX8_quarrel_135 ?_
            refine j_iconst X (v := 0) (by decide) dX8_quarrel_137 ?_
            refine j_callVV X (nn := 3) (As := [.int (M10 80 2), .int 6, .int 0]) (st := []) (ci := 8) cl_79.1 (wE_8 _ cl_79.2) rfl aw_183 aw_184 (x_X8_gets l D y ad (M10 80 2) 6 0 _ _ h) aw_182 aw_185 aw_5 (by decide +kernel) ⟨Nat.le_of_ble_eq_true rfl, Nat.le_of_ble_eq_true rfl⟩ rfl (Nat.le_of_ble_eq_true rfl) ⟨Nat.le_of_ble_eq_true rfl, Nat.le_of_ble_eq_true rfl⟩ dX8_quarrel_138 ?_
            intro M19 h
            refine j_aload_n X 1 rfl rfl dX8_quarrel_141 ?_
            refine j_get X cl_79.1 (wE_8 _ cl_79.2) rfl awF8 0 (by decide) aw_92 rfl (v := .ref (ad 80)) rfl dX8_quarrel_142 ?_
            refine j_iconst X (v := 2) (by decide) dX8_quarrel_145 ?_
            refine j_dup2 X rfl rfl dX8_quarrel_146 ?_
            refine j_iald X cl_80.1 cl_80.2 (by unfold vp_in; decide) dX8_quarrel_147 ?_
            refine j_eqi (v := M19 80 2) rfl ?_
            refine j_iconst X (v := 1) (by decide) dX8_quarrel_148 ?_
            refine j_iadd X dX8_quarrel_149 ?_
            refine j_iast X cl_80.1 cl_80.2 (by unfold vp_in; decide) dX8_quarrel_150 ?_
            refine j_eqM (M1 := (up M19 80 2 ((M19 80 2) + 1))) rfl ?_
            refine j_iload X 0 rfl dX8_quarrel_151 ?_
            exact j_iret X hr hlocks dX8_quarrel_153 h
          · replace h := h.2 q_12
            refine j_aload_n X 0 rfl rfl dX8_quarrel_62 ?_
            refine j_ldc X (v := (-1000000004)) aw_181 dX8_quarrel_63 ?_
            refine j_callVI X (nn := 1) (As := [.int (-1000000004)]) (st := []) (ci := 8) cl_79.1 (wE_8 _ cl_79.2) rfl aw_144 aw_145 (x_X8_errs l D y ad (-1000000004) _ _ h) aw_143 aw_146 aw_5 (by decide +kernel) ⟨Nat.le_of_ble_eq_true rfl, Nat.le_of_ble_eq_true rfl⟩ rfl (Nat.le_of_ble_eq_true rfl) ⟨Nat.le_of_ble_eq_true rfl, Nat.le_of_ble_eq_true rfl⟩ dX8_quarrel_65 ?_
            intro r20 M20 h
            exact j_iret X hr hlocks dX8_quarrel_68 h
        · replace h := h.2 q_11
          refine j_aload_n X 0 rfl rfl dX8_quarrel_44 ?_
          refine j_ldc X (v := (-1000000001)) aw_132 dX8_quarrel_45 ?_
          refine j_callVI X (nn := 1) (As := [.int (-1000000001)]) (st := []) (ci := 8) cl_79.1 (wE_8 _ cl_79.2) rfl aw_144 aw_145 (x_X8_errs l D y ad (-1000000001) _ _ h) aw_143 aw_146 aw_5 (by decide +kernel) ⟨Nat.le_of_ble_eq_true rfl, Nat.le_of_ble_eq_true rfl⟩ rfl (Nat.le_of_ble_eq_true rfl) ⟨Nat.le_of_ble_eq_true rfl, Nat.le_of_ble_eq_true rfl⟩ dX8_quarrel_47 ?_
          intro r21 M21 h
          exact j_iret X hr hlocks dX8_quarrel_50 h
