theorem dX8_free_4 : decode cX8_free 4 = .ok (.iload_n 2, 1) := dk_28 (by decide +kernel)
theorem dX8_free_5 : decode cX8_free 5 = .ok (.aload_n 0, 1) := dk_42 (by decide +kernel)
theorem dX8_free_6 : decode cX8_free 6 = .ok (.getfield 7, 3) := dk_180 (by decide +kernel)
theorem dX8_free_9 : decode cX8_free 9 = .ok (.iconst 2, 1) := dk_5 (by decide +kernel)
theorem dX8_free_10 : decode cX8_free 10 = .ok (.iaload, 1) := dk_46 (by decide +kernel)
theorem dX8_free_11 : decode cX8_free 11 = .ok (.if_icmp .ge 35, 3) := dk_162 (by decide +kernel)
theorem dX8_free_46 : decode cX8_free 46 = .ok (.iload_n 1, 1) := dk_27 (by decide +kernel)
theorem dX8_free_47 : decode cX8_free 47 = .ok (.ireturn, 1) := dk_172 (by decide +kernel)
theorem dX8_free_14 : decode cX8_free 14 = .ok (.iload_n 1, 1) := dk_27 (by decide +kernel)
theorem dX8_free_15 : decode cX8_free 15 = .ok (.aload_n 0, 1) := dk_42 (by decide +kernel)
theorem dX8_free_16 : decode cX8_free 16 = .ok (.iload_n 2, 1) := dk_28 (by decide +kernel)
theorem dX8_free_17 : decode cX8_free 17 = .ok (.invokevirtual 159, 3) := dk_182 (by decide +kernel)
theorem dX8_free_20 : decode cX8_free 20 = .ok (.ifCond .ne 17, 3) := dk_154 (by decide +kernel)
theorem dX8_free_37 : decode cX8_free 37 = .ok (.iconst 0, 1) := dk_3 (by decide +kernel)
theorem dX8_free_38 : decode cX8_free 38 = .ok (.ior, 1) := dk_128 (by decide +kernel)
theorem dX8_free_39 : decode cX8_free 39 = .ok (.istore_n 1, 1) := dk_60 (by decide +kernel)
theorem dX8_free_40 : decode cX8_free 40 = .ok (.iinc 2 1, 3) := dk_132 (by decide +kernel)
theorem dX8_free_43 : decode cX8_free 43 = .ok (.goto (-39), 3) := dk_167 (by decide +kernel)
theorem dX8_free_23 : decode cX8_free 23 = .ok (.aload_n 0, 1) := dk_42 (by decide +kernel)
theorem dX8_free_24 : decode cX8_free 24 = .ok (.iload_n 2, 1) := dk_28 (by decide +kernel)
theorem dX8_free_25 : decode cX8_free 25 = .ok (.invokevirtual 162, 3) := dk_182 (by decide +kernel)
theorem dX8_free_28 : decode cX8_free 28 = .ok (.ifCond .eq 9, 3) := dk_153 (by decide +kernel)
theorem dX8_free_31 : decode cX8_free 31 = .ok (.iconst 1, 1) := dk_4 (by decide +kernel)
theorem dX8_free_32 : decode cX8_free 32 = .ok (.iload_n 2, 1) := dk_28 (by decide +kernel)
theorem dX8_free_33 : decode cX8_free 33 = .ok (.ishl, 1) := dk_120 (by decide +kernel)
theorem dX8_free_34 : decode cX8_free 34 = .ok (.goto 4, 3) := dk_167 (by decide +kernel)
theorem dX8_free_0 : decode cX8_free 0 = .ok (.iconst 0, 1) := dk_3 (by decide +kernel)
theorem dX8_free_1 : decode cX8_free 1 = .ok (.istore_n 1, 1) := dk_60 (by decide +kernel)
theorem dX8_free_2 : decode cX8_free 2 = .ok (.iconst 0, 1) := dk_3 (by decide +kernel)
theorem dX8_free_3 : decode cX8_free 3 = .ok (.istore_n 2, 1) := dk_61 (by decide +kernel)
set_option maxRecDepth 100000 in
set_option maxHeartbeats 8000000 in
theorem x_X8_free (l : Launch) (D : va_G) (y : wY) (ad : Nat → Nat) (M : Mem) (K : Int32 → Mem → Prop) (h : wp_X8_free M K) : MI l D y ad yX8_free (Cond.code yX8_free cX8_free 3 (some .int)) 3 M [.ref (ad 79)] K := by
  refine MI_of (by decide) (Nat.le_of_ble_eq_true rfl) ?_
  intro p e s m args below meth c X hr hlocks
  have hL4 : ∀ (n : Nat) (i1 : Int32) (i2 : Int32) (Mb : Mem), wp_X8_free_L4 K n i1 i2 Mb → J p l e (rmN 3) s m args below meth c 0 0 (QI K D y ad M s args below) D y ad (va_A (PL y ad M) s.heap.size) 3 Mb 4 [(0, .ref (ad 79)), (1, .int i1), (2, .int i2)] [] := by
    intro n
    induction n with
    | zero => intro i1 i2 Mb h; exact False.elim h
    | succ n hB4 =>
      intro i1 i2 Mb h
      replace h : wp_X8_free_l4 K (wp_X8_free_L4 K n) i1 i2 Mb := h
      delta wp_X8_free_l4 at h
      refine j_iload_n X 2 rfl rfl dX8_free_4 ?_
      refine j_aload_n X 0 rfl rfl dX8_free_5 ?_
      refine j_get X cl_79.1 (wE_8 _ cl_79.2) rfl awF8 0 (by decide) aw_92 rfl (v := .ref (ad 80)) rfl dX8_free_6 ?_
      refine j_iconst X (v := 2) (by decide) dX8_free_9 ?_
      refine j_iald X cl_80.1 cl_80.2 (by unfold vp_in; decide) dX8_free_10 ?_
      refine j_eqi (v := Mb 80 2) rfl ?_
      refine j_icmp_ge X 46 (by decide) dX8_free_11 (fun q_401 => ?_) (fun q_401 => ?_)
      · replace h := h.1 q_401
        refine j_iload_n X 1 rfl rfl dX8_free_46 ?_
        exact j_iret X hr hlocks dX8_free_47 h
      · replace h := h.2 q_401
        refine j_iload_n X 1 rfl rfl dX8_free_14 ?_
        refine j_aload_n X 0 rfl rfl dX8_free_15 ?_
        refine j_iload_n X 2 rfl rfl dX8_free_16 ?_
        refine j_callVI X (nn := 1) (As := [.int i2]) (st := [.int i1]) (ci := 8) cl_79.1 (wE_8 _ cl_79.2) rfl aw_494 aw_495 (x_X8_isOver l D y ad i2 _ _ h) aw_493 aw_496 aw_5 (by decide +kernel) ⟨Nat.le_of_ble_eq_true rfl, Nat.le_of_ble_eq_true rfl⟩ rfl (Nat.le_of_ble_eq_true rfl) ⟨Nat.le_of_ble_eq_true rfl, Nat.le_of_ble_eq_true rfl⟩ dX8_free_17 ?_
        intro r402 M402 h
        refine j_if_ne X 37 (by decide) dX8_free_20 (fun q_403 => ?_) (fun q_403 => ?_)
        · replace h := h.1 q_403
          refine j_iconst X (v := 0) (by decide) dX8_free_37 ?_
          refine j_ior X dX8_free_38 ?_
          refine j_istore_n X [(1, .int (i1 ||| 0)), (0, .ref (ad 79)), (2, .int i2)] rfl (by decide) rfl dX8_free_39 ?_
          refine j_iinc X (v := (i2 + 1)) 2 [(2, .int (i2 + 1)), (1, .int (i1 ||| 0)), (0, .ref (ad 79))] rfl rfl (by decide) rfl dX8_free_40 ?_
          refine j_goto X 4 (by decide) dX8_free_43 ?_
          refine j_lv (lv1 := [(0, .ref (ad 79)), (1, .int (i1 ||| 0)), (2, .int (i2 + 1))]) [2, 1, 0] rfl ?_
          exact hB4 _ _ _ h
        · replace h := h.2 q_403
          refine j_aload_n X 0 rfl rfl dX8_free_23 ?_
          refine j_iload_n X 2 rfl rfl dX8_free_24 ?_
          refine j_callVI X (nn := 1) (As := [.int i2]) (st := [.int i1]) (ci := 8) cl_79.1 (wE_8 _ cl_79.2) rfl aw_502 aw_503 (x_X8_isLoose l D y ad i2 _ _ h) aw_501 aw_504 aw_5 (by decide +kernel) ⟨Nat.le_of_ble_eq_true rfl, Nat.le_of_ble_eq_true rfl⟩ rfl (Nat.le_of_ble_eq_true rfl) ⟨Nat.le_of_ble_eq_true rfl, Nat.le_of_ble_eq_true rfl⟩ dX8_free_25 ?_
          intro r404 M404 h
          refine j_if_eq X 37 (by decide) dX8_free_28 (fun q_405 => ?_) (fun q_405 => ?_)
          · replace h := h.1 q_405
            refine j_iconst X (v := 0) (by decide) dX8_free_37 ?_
            refine j_ior X dX8_free_38 ?_
            refine j_istore_n X [(1, .int (i1 ||| 0)), (0, .ref (ad 79)), (2, .int i2)] rfl (by decide) rfl dX8_free_39 ?_
            refine j_iinc X (v := (i2 + 1)) 2 [(2, .int (i2 + 1)), (1, .int (i1 ||| 0)), (0, .ref (ad 79))] rfl rfl (by decide) rfl dX8_free_40 ?_
            refine j_goto X 4 (by decide) dX8_free_43 ?_
            refine j_lv (lv1 := [(0, .ref (ad 79)), (1, .int (i1 ||| 0)), (2, .int (i2 + 1))]) [2, 1, 0] rfl ?_
            exact hB4 _ _ _ h
          · replace h := h.2 q_405
            refine j_iconst X (v := 1) (by decide) dX8_free_31 ?_
            refine j_iload_n X 2 rfl rfl dX8_free_32 ?_
            refine j_ishl X dX8_free_33 ?_
            refine j_goto X 38 (by decide) dX8_free_34 ?_
            refine j_ior X dX8_free_38 ?_
            refine j_istore_n X [(1, .int (i1 ||| ((1 : Int32) <<< (i2 &&& 31)))), (0, .ref (ad 79)), (2, .int i2)] rfl (by decide) rfl dX8_free_39 ?_
            refine j_iinc X (v := (i2 + 1)) 2 [(2, .int (i2 + 1)), (1, .int (i1 ||| ((1 : Int32) <<< (i2 &&& 31)))), (0, .ref (ad 79))] rfl rfl (by decide) rfl dX8_free_40 ?_
            refine j_goto X 4 (by decide) dX8_free_43 ?_
            refine j_lv (lv1 := [(0, .ref (ad 79)), (1, .int (i1 ||| ((1 : Int32) <<< (i2 &&& 31)))), (2, .int (i2 + 1))]) [2, 1, 0] rfl ?_
            exact hB4 _ _ _ h
  delta wp_X8_free at h
  refine j_lv (lv1 := [(0, .ref (ad 79))]) [0] rfl ?_
  refine j_iconst X (v := 0) (by decide) dX8_free_0 ?_
  refine j_istore_n X [(1, .int 0), (0, .ref (ad 79))] rfl (by decide) rfl dX8_free_1 ?_
  refine j_iconst X (v := 0) (by decide) dX8_free_2 ?_
  refine j_istore_n X [(2, .int 0), (1, .int 0), (0, .ref (ad 79))] rfl (by decide) rfl dX8_free_3 ?_
  refine j_lv (lv1 := [(0, .ref (ad 79)), (1, .int 0), (2, .int 0)]) [2, 1, 0] rfl ?_
  obtain ⟨n4, h⟩ := h
  exact hL4    n4 _ _ _ h
theorem dX8_divisor_4 : decode cX8_divisor 4 = .ok (.iload_n 3, 1) := dk_29 (by decide +kernel)
theorem dX8_divisor_5 : decode cX8_divisor 5 = .ok (.ifCond .eq 16, 3) := dk_153 (by decide +kernel)
theorem dX8_divisor_21 : decode cX8_divisor 21 = .ok (.iload_n 2, 1) := dk_28 (by decide +kernel)
theorem dX8_divisor_22 : decode cX8_divisor 22 = .ok (.ireturn, 1) := dk_172 (by decide +kernel)
theorem dX8_divisor_8 : decode cX8_divisor 8 = .ok (.iload_n 2, 1) := dk_28 (by decide +kernel)
theorem dX8_divisor_9 : decode cX8_divisor 9 = .ok (.iload_n 3, 1) := dk_29 (by decide +kernel)
theorem dX8_divisor_10 : decode cX8_divisor 10 = .ok (.irem, 1) := dk_112 (by decide +kernel)
theorem dX8_divisor_11 : decode cX8_divisor 11 = .ok (.istore 4, 2) := dk_54 (by decide +kernel)
theorem dX8_divisor_13 : decode cX8_divisor 13 = .ok (.iload_n 3, 1) := dk_29 (by decide +kernel)
theorem dX8_divisor_14 : decode cX8_divisor 14 = .ok (.istore_n 2, 1) := dk_61 (by decide +kernel)
theorem dX8_divisor_15 : decode cX8_divisor 15 = .ok (.iload 4, 2) := dk_21 (by decide +kernel)
theorem dX8_divisor_17 : decode cX8_divisor 17 = .ok (.istore_n 3, 1) := dk_62 (by decide +kernel)
theorem dX8_divisor_18 : decode cX8_divisor 18 = .ok (.goto (-14), 3) := dk_167 (by decide +kernel)
theorem dX8_divisor_0 : decode cX8_divisor 0 = .ok (.iload_n 0, 1) := dk_26 (by decide +kernel)
theorem dX8_divisor_1 : decode cX8_divisor 1 = .ok (.istore_n 2, 1) := dk_61 (by decide +kernel)
theorem dX8_divisor_2 : decode cX8_divisor 2 = .ok (.iload_n 1, 1) := dk_27 (by decide +kernel)
theorem dX8_divisor_3 : decode cX8_divisor 3 = .ok (.istore_n 3, 1) := dk_62 (by decide +kernel)
set_option maxRecDepth 100000 in
set_option maxHeartbeats 8000000 in
theorem x_X8_divisor (l : Launch) (D : va_G) (y : wY) (ad : Nat → Nat) (i0 : Int32) (i1 : Int32) (M : Mem) (K : Int32 → Mem → Prop) (h : wp_X8_divisor i0 i1 M K) : MI l D y ad yX8_divisor (Cond.code yX8_divisor cX8_divisor 5 (some .int)) 0 M [.int i0, .int i1] K := by
  refine MI_of (by decide) (Nat.le_of_ble_eq_true rfl) ?_
  intro p e s m args below meth c X hr hlocks
  have hL4 : ∀ (n : Nat) (i2 : Int32) (i3 : Int32) (Mb : Mem), wp_X8_divisor_L4 K n i2 i3 Mb → J p l e (rmN 0) s m args below meth c 0 0 (QI K D y ad M s args below) D y ad (va_A (PL y ad M) s.heap.size) 5 Mb 4 [(2, .int i2), (3, .int i3)] [] := by
    intro n
    induction n with
    | zero => intro i2 i3 Mb h; exact False.elim h
    | succ n hB4 =>
      intro i2 i3 Mb h
      replace h : wp_X8_divisor_l4 K (wp_X8_divisor_L4 K n) i2 i3 Mb := h
      delta wp_X8_divisor_l4 at h
      refine j_iload_n X 1 rfl rfl dX8_divisor_4 ?_
      refine j_if_eq X 21 (by decide) dX8_divisor_5 (fun q_401 => ?_) (fun q_401 => ?_)
      · replace h := h.1 q_401
        refine j_iload_n X 0 rfl rfl dX8_divisor_21 ?_
        exact j_iret X hr hlocks dX8_divisor_22 h
      · replace h := h.2 q_401
        refine j_iload_n X 0 rfl rfl dX8_divisor_8 ?_
        refine j_iload_n X 1 rfl rfl dX8_divisor_9 ?_
        obtain ⟨hn_402, h⟩ := h
        refine j_irem X hn_402 dX8_divisor_10 ?_
        refine j_istore X [(4, .int (i2 - i2 / i3 * i3)), (2, .int i2), (3, .int i3)] (by decide) rfl dX8_divisor_11 ?_
        refine j_iload_n X 2 rfl rfl dX8_divisor_13 ?_
        refine j_istore_n X [(2, .int i3), (4, .int (i2 - i2 / i3 * i3)), (3, .int i3)] rfl (by decide) rfl dX8_divisor_14 ?_
        refine j_iload X 1 rfl dX8_divisor_15 ?_
        refine j_istore_n X [(3, .int (i2 - i2 / i3 * i3)), (2, .int i3), (4, .int (i2 - i2 / i3 * i3))] rfl (by decide) rfl dX8_divisor_17 ?_
        refine j_goto X 4 (by decide) dX8_divisor_18 ?_
        refine j_lv (lv1 := [(2, .int i3), (3, .int (i2 - i2 / i3 * i3))]) [1, 0] rfl ?_
        exact hB4 _ _ _ h
  delta wp_X8_divisor at h
  refine j_lv (lv1 := [(0, .int i0), (1, .int i1)]) [0, 1] rfl ?_
  refine j_iload_n X 0 rfl rfl dX8_divisor_0 ?_
  refine j_istore_n X [(2, .int i0), (0, .int i0), (1, .int i1)] rfl (by decide) rfl dX8_divisor_1 ?_
  refine j_iload_n X 2 rfl rfl dX8_divisor_2 ?_
  refine j_istore_n X [(3, .int i1), (2, .int i0), (0, .int i0), (1, .int i1)] rfl (by decide) rfl dX8_divisor_3 ?_
  refine j_lv (lv1 := [(2, .int i0), (3, .int i1)]) [1, 0] rfl ?_
  obtain ⟨n4, h⟩ := h
  exact hL4    n4 _ _ _ h
theorem dX8_odds_49 : decode cX8_odds 49 = .ok (.iload 6, 2) := dk_21 (by decide +kernel)
theorem dX8_odds_51 : decode cX8_odds 51 = .ok (.bipush 10, 2) := dk_16 (by decide +kernel)
theorem dX8_odds_53 : decode cX8_odds 53 = .ok (.if_icmp .ge 32, 3) := dk_162 (by decide +kernel)
theorem dX8_odds_85 : decode cX8_odds 85 = .ok (.aload_n 0, 1) := dk_42 (by decide +kernel)
theorem dX8_odds_86 : decode cX8_odds 86 = .ok (.getfield 7, 3) := dk_180 (by decide +kernel)
theorem dX8_odds_89 : decode cX8_odds 89 = .ok (.bipush 7, 2) := dk_16 (by decide +kernel)
theorem dX8_odds_91 : decode cX8_odds 91 = .ok (.iload 4, 2) := dk_21 (by decide +kernel)
theorem dX8_odds_93 : decode cX8_odds 93 = .ok (.iastore, 1) := dk_79 (by decide +kernel)
theorem dX8_odds_94 : decode cX8_odds 94 = .ok (.iload 5, 2) := dk_21 (by decide +kernel)
theorem dX8_odds_96 : decode cX8_odds 96 = .ok (.bipush 10, 2) := dk_16 (by decide +kernel)
theorem dX8_odds_98 : decode cX8_odds 98 = .ok (.invokestatic 211, 3) := dk_184 (by decide +kernel)
theorem dX8_odds_101 : decode cX8_odds 101 = .ok (.istore 6, 2) := dk_54 (by decide +kernel)
theorem dX8_odds_103 : decode cX8_odds 103 = .ok (.iload_n 3, 1) := dk_29 (by decide +kernel)
theorem dX8_odds_104 : decode cX8_odds 104 = .ok (.ifCond .ne 11, 3) := dk_154 (by decide +kernel)
theorem dX8_odds_115 : decode cX8_odds 115 = .ok (.bipush 10, 2) := dk_16 (by decide +kernel)
theorem dX8_odds_117 : decode cX8_odds 117 = .ok (.iload 6, 2) := dk_21 (by decide +kernel)
theorem dX8_odds_119 : decode cX8_odds 119 = .ok (.idiv, 1) := dk_108 (by decide +kernel)
theorem dX8_odds_120 : decode cX8_odds 120 = .ok (.ireturn, 1) := dk_172 (by decide +kernel)
theorem dX8_odds_107 : decode cX8_odds 107 = .ok (.iload 5, 2) := dk_21 (by decide +kernel)
theorem dX8_odds_109 : decode cX8_odds 109 = .ok (.iload 6, 2) := dk_21 (by decide +kernel)
theorem dX8_odds_111 : decode cX8_odds 111 = .ok (.idiv, 1) := dk_108 (by decide +kernel)
theorem dX8_odds_112 : decode cX8_odds 112 = .ok (.goto 8, 3) := dk_167 (by decide +kernel)
theorem dX8_odds_56 : decode cX8_odds 56 = .ok (.aload_n 0, 1) := dk_42 (by decide +kernel)
theorem dX8_odds_57 : decode cX8_odds 57 = .ok (.getfield 7, 3) := dk_180 (by decide +kernel)
theorem dX8_odds_60 : decode cX8_odds 60 = .ok (.bipush 7, 2) := dk_16 (by decide +kernel)
theorem dX8_odds_62 : decode cX8_odds 62 = .ok (.iload 6, 2) := dk_21 (by decide +kernel)
theorem dX8_odds_64 : decode cX8_odds 64 = .ok (.iastore, 1) := dk_79 (by decide +kernel)
theorem dX8_odds_65 : decode cX8_odds 65 = .ok (.iload 5, 2) := dk_21 (by decide +kernel)
theorem dX8_odds_67 : decode cX8_odds 67 = .ok (.aload_n 0, 1) := dk_42 (by decide +kernel)
theorem dX8_odds_68 : decode cX8_odds 68 = .ok (.iload_n 2, 1) := dk_28 (by decide +kernel)
theorem dX8_odds_69 : decode cX8_odds 69 = .ok (.invokevirtual 195, 3) := dk_182 (by decide +kernel)
theorem dX8_odds_72 : decode cX8_odds 72 = .ok (.iload_n 1, 1) := dk_27 (by decide +kernel)
theorem dX8_odds_73 : decode cX8_odds 73 = .ok (.ishr, 1) := dk_122 (by decide +kernel)
theorem dX8_odds_74 : decode cX8_odds 74 = .ok (.iconst 1, 1) := dk_4 (by decide +kernel)
theorem dX8_odds_75 : decode cX8_odds 75 = .ok (.iand, 1) := dk_126 (by decide +kernel)
theorem dX8_odds_76 : decode cX8_odds 76 = .ok (.iadd, 1) := dk_96 (by decide +kernel)
theorem dX8_odds_77 : decode cX8_odds 77 = .ok (.istore 5, 2) := dk_54 (by decide +kernel)
theorem dX8_odds_79 : decode cX8_odds 79 = .ok (.iinc 6 1, 3) := dk_132 (by decide +kernel)
theorem dX8_odds_82 : decode cX8_odds 82 = .ok (.goto (-33), 3) := dk_167 (by decide +kernel)
theorem dX8_odds_0 : decode cX8_odds 0 = .ok (.aload_n 0, 1) := dk_42 (by decide +kernel)
theorem dX8_odds_1 : decode cX8_odds 1 = .ok (.iload_n 1, 1) := dk_27 (by decide +kernel)
theorem dX8_odds_2 : decode cX8_odds 2 = .ok (.invokevirtual 73, 3) := dk_182 (by decide +kernel)
theorem dX8_odds_5 : decode cX8_odds 5 = .ok (.ifCond .eq 22, 3) := dk_153 (by decide +kernel)
theorem dX8_odds_27 : decode cX8_odds 27 = .ok (.aload_n 0, 1) := dk_42 (by decide +kernel)
theorem dX8_odds_28 : decode cX8_odds 28 = .ok (.ldc 60, 2) := dk_18 (by decide +kernel)
theorem dX8_odds_30 : decode cX8_odds 30 = .ok (.invokevirtual 61, 3) := dk_182 (by decide +kernel)
theorem dX8_odds_33 : decode cX8_odds 33 = .ok (.ireturn, 1) := dk_172 (by decide +kernel)
theorem dX8_odds_8 : decode cX8_odds 8 = .ok (.iload_n 2, 1) := dk_28 (by decide +kernel)
theorem dX8_odds_9 : decode cX8_odds 9 = .ok (.iconst 0, 1) := dk_3 (by decide +kernel)
theorem dX8_odds_10 : decode cX8_odds 10 = .ok (.bipush 60, 2) := dk_16 (by decide +kernel)
theorem dX8_odds_12 : decode cX8_odds 12 = .ok (.invokestatic 47, 3) := dk_184 (by decide +kernel)
theorem dX8_odds_15 : decode cX8_odds 15 = .ok (.ifCond .eq 12, 3) := dk_153 (by decide +kernel)
theorem dX8_odds_18 : decode cX8_odds 18 = .ok (.iload_n 3, 1) := dk_29 (by decide +kernel)
theorem dX8_odds_19 : decode cX8_odds 19 = .ok (.iconst 0, 1) := dk_3 (by decide +kernel)
theorem dX8_odds_20 : decode cX8_odds 20 = .ok (.iconst 1, 1) := dk_4 (by decide +kernel)
theorem dX8_odds_21 : decode cX8_odds 21 = .ok (.invokestatic 47, 3) := dk_184 (by decide +kernel)
theorem dX8_odds_24 : decode cX8_odds 24 = .ok (.ifCond .ne 10, 3) := dk_154 (by decide +kernel)
theorem dX8_odds_34 : decode cX8_odds 34 = .ok (.aload_n 0, 1) := dk_42 (by decide +kernel)
theorem dX8_odds_35 : decode cX8_odds 35 = .ok (.getfield 7, 3) := dk_180 (by decide +kernel)
theorem dX8_odds_38 : decode cX8_odds 38 = .ok (.bipush 7, 2) := dk_16 (by decide +kernel)
theorem dX8_odds_40 : decode cX8_odds 40 = .ok (.iaload, 1) := dk_46 (by decide +kernel)
theorem dX8_odds_41 : decode cX8_odds 41 = .ok (.istore 4, 2) := dk_54 (by decide +kernel)
theorem dX8_odds_43 : decode cX8_odds 43 = .ok (.iconst 0, 1) := dk_3 (by decide +kernel)
theorem dX8_odds_44 : decode cX8_odds 44 = .ok (.istore 5, 2) := dk_54 (by decide +kernel)
theorem dX8_odds_46 : decode cX8_odds 46 = .ok (.iconst 0, 1) := dk_3 (by decide +kernel)
theorem dX8_odds_47 : decode cX8_odds 47 = .ok (.istore 6, 2) := dk_54 (by decide +kernel)
set_option maxRecDepth 100000 in
set_option maxHeartbeats 8000000 in
theorem x_X8_odds (l : Launch) (D : va_G) (y : wY) (ad : Nat → Nat) (i1 : Int32) (i2 : Int32) (i3 : Int32) (M : Mem) (K : Int32 → Mem → Prop) (h : wp_X8_odds i1 i2 i3 M K) : MI l D y ad yX8_odds (Cond.code yX8_odds cX8_odds 7 (some .int)) 8 M [.ref (ad 79), .int i1, .int i2, .int i3] K := by
  refine MI_of (by decide) (Nat.le_of_ble_eq_true rfl) ?_
  intro p e s m args below meth c X hr hlocks
  have hL49 : ∀ (i1 : Int32) (i2 : Int32) (i3 : Int32) (i4 : Int32) (n : Nat) (i5 : Int32) (i6 : Int32) (Mb : Mem), wp_X8_odds_L49 K i1 i2 i3 i4 n i5 i6 Mb → J p l e (rmN 8) s m args below meth c 0 0 (QI K D y ad M s args below) D y ad (va_A (PL y ad M) s.heap.size) 7 Mb 49 [(0, .ref (ad 79)), (1, .int i1), (2, .int i2), (3, .int i3), (4, .int i4), (5, .int i5), (6, .int i6)] [] := by
    intro i1 i2 i3 i4 n
    induction n with
    | zero => intro i5 i6 Mb h; exact False.elim h
    | succ n hB49 =>
      intro i5 i6 Mb h
      replace h : wp_X8_odds_l49 K i1 i2 i3 i4 (wp_X8_odds_L49 K i1 i2 i3 i4 n) i5 i6 Mb := h
      delta wp_X8_odds_l49 at h
      refine j_iload X 6 rfl dX8_odds_49 ?_
      refine j_bipush X (v := 10) (by decide) dX8_odds_51 ?_
      refine j_icmp_ge X 85 (by decide) dX8_odds_53 (fun q_4901 => ?_) (fun q_4901 => ?_)
      · replace h := h.1 q_4901
        refine j_aload_n X 0 rfl rfl dX8_odds_85 ?_
        refine j_get X cl_79.1 (wE_8 _ cl_79.2) rfl awF8 0 (by decide) aw_92 rfl (v := .ref (ad 80)) rfl dX8_odds_86 ?_
        refine j_bipush X (v := 7) (by decide) dX8_odds_89 ?_
        refine j_iload X 4 rfl dX8_odds_91 ?_
        refine j_iast X cl_80.1 cl_80.2 (by unfold vp_in; decide) dX8_odds_93 ?_
        refine j_eqM (M1 := (up Mb 80 7 i4)) rfl ?_
        refine j_iload X 5 rfl dX8_odds_94 ?_
        refine j_bipush X (v := 10) (by decide) dX8_odds_96 ?_
        refine j_callSI X (nn := 2) (As := [.int i5, .int 10]) (st := []) aw_728 (x_X8_divisor l D y ad i5 10 _ _ h) aw_727 aw_729 aw_5 (by decide +kernel) ⟨Nat.le_of_ble_eq_true rfl, Nat.le_of_ble_eq_true rfl⟩ rfl (Nat.le_of_ble_eq_true rfl) ⟨Nat.le_of_ble_eq_true rfl, Nat.le_of_ble_eq_true rfl⟩ dX8_odds_98 ?_
        intro r4902 M4902 h
        refine j_istore X [(6, .int r4902), (0, .ref (ad 79)), (1, .int i1), (2, .int i2), (3, .int i3), (4, .int i4), (5, .int i5)] (by decide) rfl dX8_odds_101 ?_
        refine j_iload_n X 4 rfl rfl dX8_odds_103 ?_
        refine j_if_ne X 115 (by decide) dX8_odds_104 (fun q_4903 => ?_) (fun q_4903 => ?_)
        · replace h := h.1 q_4903
          refine j_bipush X (v := 10) (by decide) dX8_odds_115 ?_
          refine j_iload X 0 rfl dX8_odds_117 ?_
          obtain ⟨hn_4904, h⟩ := h
          refine j_idiv X hn_4904 dX8_odds_119 ?_
          exact j_iret X hr hlocks dX8_odds_120 h
        · replace h := h.2 q_4903
          refine j_iload X 6 rfl dX8_odds_107 ?_
          refine j_iload X 0 rfl dX8_odds_109 ?_
          obtain ⟨hn_4905, h⟩ := h
          refine j_idiv X hn_4905 dX8_odds_111 ?_
          refine j_goto X 120 (by decide) dX8_odds_112 ?_
          exact j_iret X hr hlocks dX8_odds_120 h
      · replace h := h.2 q_4901
        refine j_aload_n X 0 rfl rfl dX8_odds_56 ?_
        refine j_get X cl_79.1 (wE_8 _ cl_79.2) rfl awF8 0 (by decide) aw_92 rfl (v := .ref (ad 80)) rfl dX8_odds_57 ?_
        refine j_bipush X (v := 7) (by decide) dX8_odds_60 ?_
        refine j_iload X 6 rfl dX8_odds_62 ?_
        refine j_iast X cl_80.1 cl_80.2 (by unfold vp_in; decide) dX8_odds_64 ?_
        refine j_eqM (M1 := (up Mb 80 7 i6)) rfl ?_
        refine j_iload X 5 rfl dX8_odds_65 ?_
        refine j_aload_n X 0 rfl rfl dX8_odds_67 ?_
        refine j_iload_n X 2 rfl rfl dX8_odds_68 ?_
        refine j_callVI X (nn := 1) (As := [.int i2]) (st := [.int i5]) (ci := 8) cl_79.1 (wE_8 _ cl_79.2) rfl aw_575 aw_576 (x_X8_overBehind l D y ad i2 _ _ h) aw_574 aw_577 aw_5 (by decide +kernel) ⟨Nat.le_of_ble_eq_true rfl, Nat.le_of_ble_eq_true rfl⟩ rfl (Nat.le_of_ble_eq_true rfl) ⟨Nat.le_of_ble_eq_true rfl, Nat.le_of_ble_eq_true rfl⟩ dX8_odds_69 ?_
        intro r4906 M4906 h
        refine j_iload_n X 1 rfl rfl dX8_odds_72 ?_
        refine j_ishr X dX8_odds_73 ?_
        refine j_iconst X (v := 1) (by decide) dX8_odds_74 ?_
        refine j_iand X dX8_odds_75 ?_
        refine j_iadd X dX8_odds_76 ?_
        refine j_istore X [(5, .int (i5 + ((r4906 >>> (i1 &&& 31)) &&& 1))), (0, .ref (ad 79)), (1, .int i1), (2, .int i2), (3, .int i3), (4, .int i4), (6, .int i6)] (by decide) rfl dX8_odds_77 ?_
        refine j_iinc X (v := (i6 + 1)) 6 [(6, .int (i6 + 1)), (5, .int (i5 + ((r4906 >>> (i1 &&& 31)) &&& 1))), (0, .ref (ad 79)), (1, .int i1), (2, .int i2), (3, .int i3), (4, .int i4)] rfl rfl (by decide) rfl dX8_odds_79 ?_
        refine j_goto X 49 (by decide) dX8_odds_82 ?_
        refine j_lv (lv1 := [(0, .ref (ad 79)), (1, .int i1), (2, .int i2), (3, .int i3), (4, .int i4), (5, .int (i5 + ((r4906 >>> (i1 &&& 31)) &&& 1))), (6, .int (i6 + 1))]) [2, 3, 4, 5, 6, 1, 0] rfl ?_
        exact hB49 _ _ _ h
  delta wp_X8_odds at h
  refine j_lv (lv1 := [(0, .ref (ad 79)), (1, .int i1), (2, .int i2), (3, .int i3)]) [0, 1, 2, 3] rfl ?_
  refine j_aload_n X 0 rfl rfl dX8_odds_0 ?_
  refine j_iload_n X 1 rfl rfl dX8_odds_1 ?_
  refine j_callVI X (nn := 1) (As := [.int i1]) (st := []) (ci := 8) cl_79.1 (wE_8 _ cl_79.2) rfl aw_231 aw_232 (x_X8_isQuarrel l D y ad i1 _ _ h) aw_230 aw_233 aw_5 (by decide +kernel) ⟨Nat.le_of_ble_eq_true rfl, Nat.le_of_ble_eq_true rfl⟩ rfl (Nat.le_of_ble_eq_true rfl) ⟨Nat.le_of_ble_eq_true rfl, Nat.le_of_ble_eq_true rfl⟩ dX8_odds_2 ?_
  intro r1 M1 h
  refine j_if_eq X 27 (by decide) dX8_odds_5 (fun q_2 => ?_) (fun q_2 => ?_)
  · replace h := h.1 q_2
    refine j_aload_n X 0 rfl rfl dX8_odds_27 ?_
    refine j_ldc X (v := (-1000000001)) aw_132 dX8_odds_28 ?_
    refine j_callVI X (nn := 1) (As := [.int (-1000000001)]) (st := []) (ci := 8) cl_79.1 (wE_8 _ cl_79.2) rfl aw_144 aw_145 (x_X8_errs l D y ad (-1000000001) _ _ h) aw_143 aw_146 aw_5 (by decide +kernel) ⟨Nat.le_of_ble_eq_true rfl, Nat.le_of_ble_eq_true rfl⟩ rfl (Nat.le_of_ble_eq_true rfl) ⟨Nat.le_of_ble_eq_true rfl, Nat.le_of_ble_eq_true rfl⟩ dX8_odds_30 ?_
    intro r3 M3 h
    exact j_iret X hr hlocks dX8_odds_33 h
  · replace h := h.2 q_2
    refine j_iload_n X 2 rfl rfl dX8_odds_8 ?_
    refine j_iconst X (v := 0) (by decide) dX8_odds_9 ?_
    refine j_bipush X (v := 60) (by decide) dX8_odds_10 ?_
    refine j_callSI X (nn := 3) (As := [.int i2, .int 0, .int 60]) (st := []) aw_134 (x_X8_in l D y ad i2 0 60 _ _ h) aw_133 aw_135 aw_5 (by decide +kernel) ⟨Nat.le_of_ble_eq_true rfl, Nat.le_of_ble_eq_true rfl⟩ rfl (Nat.le_of_ble_eq_true rfl) ⟨Nat.le_of_ble_eq_true rfl, Nat.le_of_ble_eq_true rfl⟩ dX8_odds_12 ?_
    intro r4 M4 h
    refine j_if_eq X 27 (by decide) dX8_odds_15 (fun q_5 => ?_) (fun q_5 => ?_)
    · replace h := h.1 q_5
      refine j_aload_n X 0 rfl rfl dX8_odds_27 ?_
      refine j_ldc X (v := (-1000000001)) aw_132 dX8_odds_28 ?_
      refine j_callVI X (nn := 1) (As := [.int (-1000000001)]) (st := []) (ci := 8) cl_79.1 (wE_8 _ cl_79.2) rfl aw_144 aw_145 (x_X8_errs l D y ad (-1000000001) _ _ h) aw_143 aw_146 aw_5 (by decide +kernel) ⟨Nat.le_of_ble_eq_true rfl, Nat.le_of_ble_eq_true rfl⟩ rfl (Nat.le_of_ble_eq_true rfl) ⟨Nat.le_of_ble_eq_true rfl, Nat.le_of_ble_eq_true rfl⟩ dX8_odds_30 ?_
      intro r6 M6 h
      exact j_iret X hr hlocks dX8_odds_33 h
    · replace h := h.2 q_5
      refine j_iload_n X 3 rfl rfl dX8_odds_18 ?_
      refine j_iconst X (v := 0) (by decide) dX8_odds_19 ?_
      refine j_iconst X (v := 1) (by decide) dX8_odds_20 ?_
      refine j_callSI X (nn := 3) (As := [.int i3, .int 0, .int 1]) (st := []) aw_134 (x_X8_in l D y ad i3 0 1 _ _ h) aw_133 aw_135 aw_5 (by decide +kernel) ⟨Nat.le_of_ble_eq_true rfl, Nat.le_of_ble_eq_true rfl⟩ rfl (Nat.le_of_ble_eq_true rfl) ⟨Nat.le_of_ble_eq_true rfl, Nat.le_of_ble_eq_true rfl⟩ dX8_odds_21 ?_
      intro r7 M7 h
      refine j_if_ne X 34 (by decide) dX8_odds_24 (fun q_8 => ?_) (fun q_8 => ?_)
      · replace h := h.1 q_8
        refine j_aload_n X 0 rfl rfl dX8_odds_34 ?_
        refine j_get X cl_79.1 (wE_8 _ cl_79.2) rfl awF8 0 (by decide) aw_92 rfl (v := .ref (ad 80)) rfl dX8_odds_35 ?_
        refine j_bipush X (v := 7) (by decide) dX8_odds_38 ?_
        refine j_iald X cl_80.1 cl_80.2 (by unfold vp_in; decide) dX8_odds_40 ?_
        refine j_eqi (v := M7 80 7) rfl ?_
        refine j_istore X [(4, .int (M7 80 7)), (0, .ref (ad 79)), (1, .int i1), (2, .int i2), (3, .int i3)] (by decide) rfl dX8_odds_41 ?_
        refine j_iconst X (v := 0) (by decide) dX8_odds_43 ?_
        refine j_istore X [(5, .int 0), (4, .int (M7 80 7)), (0, .ref (ad 79)), (1, .int i1), (2, .int i2), (3, .int i3)] (by decide) rfl dX8_odds_44 ?_
        refine j_iconst X (v := 0) (by decide) dX8_odds_46 ?_
        refine j_istore X [(6, .int 0), (5, .int 0), (4, .int (M7 80 7)), (0, .ref (ad 79)), (1, .int i1), (2, .int i2), (3, .int i3)] (by decide) rfl dX8_odds_47 ?_
        refine j_lv (lv1 := [(0, .ref (ad 79)), (1, .int i1), (2, .int i2), (3, .int i3), (4, .int (M7 80 7)), (5, .int 0), (6, .int 0)]) [3, 4, 5, 6, 2, 1, 0] rfl ?_
        obtain ⟨n49, h⟩ := h
        exact hL49 _ _ _ _   n49 _ _ _ h
      · replace h := h.2 q_8
        refine j_aload_n X 0 rfl rfl dX8_odds_27 ?_
        refine j_ldc X (v := (-1000000001)) aw_132 dX8_odds_28 ?_
        refine j_callVI X (nn := 1) (As := [.int (-1000000001)]) (st := []) (ci := 8) cl_79.1 (wE_8 _ cl_79.2) rfl aw_144 aw_145 (x_X8_errs l D y ad (-1000000001) _ _ h) aw_143 aw_146 aw_5 (by decide +kernel) ⟨Nat.le_of_ble_eq_true rfl, Nat.le_of_ble_eq_true rfl⟩ rfl (Nat.le_of_ble_eq_true rfl) ⟨Nat.le_of_ble_eq_true rfl, Nat.le_of_ble_eq_true rfl⟩ dX8_odds_30 ?_
        intro r9 M9 h
        exact j_iret X hr hlocks dX8_odds_33 h
theorem dX8_seed_0 : decode cX8_seed 0 = .ok (.aload_n 0, 1) := dk_42 (by decide +kernel)
theorem dX8_seed_1 : decode cX8_seed 1 = .ok (.getfield 7, 3) := dk_180 (by decide +kernel)
theorem dX8_seed_4 : decode cX8_seed 4 = .ok (.iconst 1, 1) := dk_4 (by decide +kernel)
theorem dX8_seed_5 : decode cX8_seed 5 = .ok (.iaload, 1) := dk_46 (by decide +kernel)
theorem dX8_seed_6 : decode cX8_seed 6 = .ok (.istore_n 2, 1) := dk_61 (by decide +kernel)
theorem dX8_seed_7 : decode cX8_seed 7 = .ok (.aload_n 0, 1) := dk_42 (by decide +kernel)
theorem dX8_seed_8 : decode cX8_seed 8 = .ok (.getfield 7, 3) := dk_180 (by decide +kernel)
theorem dX8_seed_11 : decode cX8_seed 11 = .ok (.iconst 1, 1) := dk_4 (by decide +kernel)
theorem dX8_seed_12 : decode cX8_seed 12 = .ok (.iload_n 1, 1) := dk_27 (by decide +kernel)
theorem dX8_seed_13 : decode cX8_seed 13 = .ok (.iastore, 1) := dk_79 (by decide +kernel)
theorem dX8_seed_14 : decode cX8_seed 14 = .ok (.iload_n 2, 1) := dk_28 (by decide +kernel)
theorem dX8_seed_15 : decode cX8_seed 15 = .ok (.ireturn, 1) := dk_172 (by decide +kernel)
set_option maxRecDepth 100000 in
set_option maxHeartbeats 8000000 in
theorem x_X8_seed (l : Launch) (D : va_G) (y : wY) (ad : Nat → Nat) (i1 : Int32) (M : Mem) (K : Int32 → Mem → Prop) (h : wp_X8_seed i1 M K) : MI l D y ad yX8_seed (Cond.code yX8_seed cX8_seed 3 (some .int)) 0 M [.ref (ad 79), .int i1] K := by
  refine MI_of (by decide) (Nat.le_of_ble_eq_true rfl) ?_
  intro p e s m args below meth c X hr hlocks
  delta wp_X8_seed at h
  refine j_lv (lv1 := [(0, .ref (ad 79)), (1, .int i1)]) [0, 1] rfl ?_
  refine j_aload_n X 0 rfl rfl dX8_seed_0 ?_
  refine j_get X cl_79.1 (wE_8 _ cl_79.2) rfl awF8 0 (by decide) aw_92 rfl (v := .ref (ad 80)) rfl dX8_seed_1 ?_
  refine j_iconst X (v := 1) (by decide) dX8_seed_4 ?_
  refine j_iald X cl_80.1 cl_80.2 (by unfold vp_in; decide) dX8_seed_5 ?_
  refine j_eqi (v := M 80 1) rfl ?_
  refine j_istore_n X [(2, .int (M 80 1)), (0, .ref (ad 79)), (1, .int i1)] rfl (by decide) rfl dX8_seed_6 ?_
  refine j_aload_n X 1 rfl rfl dX8_seed_7 ?_
  refine j_get X cl_79.1 (wE_8 _ cl_79.2) rfl awF8 0 (by decide) aw_92 rfl (v := .ref (ad 80)) rfl dX8_seed_8 ?_
  refine j_iconst X (v := 1) (by decide) dX8_seed_11 ?_
  refine j_iload_n X 2 rfl rfl dX8_seed_12 ?_
  refine j_iast X cl_80.1 cl_80.2 (by unfold vp_in; decide) dX8_seed_13 ?_
  refine j_eqM (M1 := (up M 80 1 i1)) rfl ?_
  refine j_iload_n X 0 rfl rfl dX8_seed_14 ?_
  exact j_iret X hr hlocks dX8_seed_15 h
theorem dX8_ran_0 : decode cX8_ran 0 = .ok (.aload_n 0, 1) := dk_42 (by decide +kernel)
theorem dX8_ran_1 : decode cX8_ran 1 = .ok (.getfield 214, 3) := dk_180 (by decide +kernel)
theorem dX8_ran_4 : decode cX8_ran 4 = .ok (.bipush 40, 2) := dk_16 (by decide +kernel)
theorem dX8_ran_6 : decode cX8_ran 6 = .ok (.if_icmp .ge 23, 3) := dk_162 (by decide +kernel)
theorem dX8_ran_29 : decode cX8_ran 29 = .ok (.return_, 1) := dk_177 (by decide +kernel)
theorem dX8_ran_9 : decode cX8_ran 9 = .ok (.aload_n 0, 1) := dk_42 (by decide +kernel)
theorem dX8_ran_10 : decode cX8_ran 10 = .ok (.getfield 43, 3) := dk_180 (by decide +kernel)
theorem dX8_ran_13 : decode cX8_ran 13 = .ok (.aload_n 0, 1) := dk_42 (by decide +kernel)
theorem dX8_ran_14 : decode cX8_ran 14 = .ok (.getfield 214, 3) := dk_180 (by decide +kernel)
theorem dX8_ran_17 : decode cX8_ran 17 = .ok (.iload_n 1, 1) := dk_27 (by decide +kernel)
theorem dX8_ran_18 : decode cX8_ran 18 = .ok (.iastore, 1) := dk_79 (by decide +kernel)
theorem dX8_ran_19 : decode cX8_ran 19 = .ok (.aload_n 0, 1) := dk_42 (by decide +kernel)
theorem dX8_ran_20 : decode cX8_ran 20 = .ok (.dup, 1) := dk_89 (by decide +kernel)
theorem dX8_ran_21 : decode cX8_ran 21 = .ok (.getfield 214, 3) := dk_180 (by decide +kernel)
theorem dX8_ran_24 : decode cX8_ran 24 = .ok (.iconst 1, 1) := dk_4 (by decide +kernel)
theorem dX8_ran_25 : decode cX8_ran 25 = .ok (.iadd, 1) := dk_96 (by decide +kernel)
theorem dX8_ran_26 : decode cX8_ran 26 = .ok (.putfield 214, 3) := dk_181 (by decide +kernel)
set_option maxRecDepth 100000 in
set_option maxHeartbeats 8000000 in
theorem x_X8_ran (l : Launch) (D : va_G) (y : wY) (ad : Nat → Nat) (i1 : Int32) (M : Mem) (K : Mem → Prop) (h : wp_X8_ran i1 M K) : MV l D y ad yX8_ran (Cond.code yX8_ran cX8_ran 2 none) 0 M [.ref (ad 79), .int i1] K := by
  refine MV_of (by decide) (Nat.le_of_ble_eq_true rfl) ?_
  intro p e s m args below meth c X hr hlocks
  delta wp_X8_ran at h
  refine j_lv (lv1 := [(0, .ref (ad 79)), (1, .int i1)]) [0, 1] rfl ?_
  refine j_aload_n X 0 rfl rfl dX8_ran_0 ?_
  refine j_get X cl_79.1 (wE_8 _ cl_79.2) rfl awF8 20 (by decide) aw_776 rfl (v := .int (M 79 20)) rfl dX8_ran_1 ?_
  refine j_bipush X (v := 40) (by decide) dX8_ran_4 ?_
  refine j_icmp_ge X 29 (by decide) dX8_ran_6 (fun q_1 => ?_) (fun q_1 => ?_)
  · replace h := h.1 q_1
    exact j_vret X hr hlocks dX8_ran_29 h
  · replace h := h.2 q_1
    refine j_aload_n X 0 rfl rfl dX8_ran_9 ?_
    refine j_get X cl_79.1 (wE_8 _ cl_79.2) rfl awF8 19 (by decide) aw_103 rfl (v := .ref (ad 91)) rfl dX8_ran_10 ?_
    refine j_aload_n X 0 rfl rfl dX8_ran_13 ?_
    refine j_get X cl_79.1 (wE_8 _ cl_79.2) rfl awF8 20 (by decide) aw_776 rfl (v := .int (M 79 20)) rfl dX8_ran_14 ?_
    refine j_iload_n X 1 rfl rfl dX8_ran_17 ?_
    obtain ⟨hi_2, h⟩ := h
    refine j_iast X cl_91.1 cl_91.2 hi_2 dX8_ran_18 ?_
    refine j_aload_n X 0 rfl rfl dX8_ran_19 ?_
    refine j_dup X rfl dX8_ran_20 ?_
    refine j_get X cl_79.1 (wE_8 _ cl_79.2) rfl awF8 20 (by decide) aw_776 rfl (v := .int ((up M 91 (M 79 20).toNatClampNeg i1) 79 20)) rfl dX8_ran_21 ?_
    refine j_iconst X (v := 1) (by decide) dX8_ran_24 ?_
    refine j_iadd X dX8_ran_25 ?_
    refine j_put X (up (up M 91 (M 79 20).toNatClampNeg i1) 79 20 (((up M 91 (M 79 20).toNatClampNeg i1) 79 20) + 1)) up_o cl_79.1 (wE_8 _ cl_79.2) rfl awF8 20 (by decide) (wP_8_20 _ _ cl_79.2) tyX8 tyX8_ok nmX8 rfl (ty := .int) (by decide +kernel) rfl rfl (Nat.le_of_ble_eq_true rfl) aw_776 rfl dX8_ran_26 ?_
    exact j_vret X hr hlocks dX8_ran_29 h
theorem dX8_grindsIn_0 : decode cX8_grindsIn 0 = .ok (.iload_n 1, 1) := dk_27 (by decide +kernel)
theorem dX8_grindsIn_1 : decode cX8_grindsIn 1 = .ok (.ifCond .ne 16, 3) := dk_154 (by decide +kernel)
theorem dX8_grindsIn_17 : decode cX8_grindsIn 17 = .ok (.iload_n 1, 1) := dk_27 (by decide +kernel)
theorem dX8_grindsIn_18 : decode cX8_grindsIn 18 = .ok (.iconst 1, 1) := dk_4 (by decide +kernel)
theorem dX8_grindsIn_19 : decode cX8_grindsIn 19 = .ok (.if_icmp .ne 18, 3) := dk_160 (by decide +kernel)
theorem dX8_grindsIn_37 : decode cX8_grindsIn 37 = .ok (.aload_n 0, 1) := dk_42 (by decide +kernel)
theorem dX8_grindsIn_38 : decode cX8_grindsIn 38 = .ok (.iload_n 1, 1) := dk_27 (by decide +kernel)
theorem dX8_grindsIn_39 : decode cX8_grindsIn 39 = .ok (.invokestatic 85, 3) := dk_184 (by decide +kernel)
theorem dX8_grindsIn_42 : decode cX8_grindsIn 42 = .ok (.iload_n 2, 1) := dk_28 (by decide +kernel)
theorem dX8_grindsIn_43 : decode cX8_grindsIn 43 = .ok (.invokevirtual 223, 3) := dk_182 (by decide +kernel)
theorem dX8_grindsIn_46 : decode cX8_grindsIn 46 = .ok (.ireturn, 1) := dk_172 (by decide +kernel)
theorem dX8_grindsIn_22 : decode cX8_grindsIn 22 = .ok (.aload_n 0, 1) := dk_42 (by decide +kernel)
theorem dX8_grindsIn_23 : decode cX8_grindsIn 23 = .ok (.bipush 20, 2) := dk_16 (by decide +kernel)
theorem dX8_grindsIn_25 : decode cX8_grindsIn 25 = .ok (.invokevirtual 217, 3) := dk_182 (by decide +kernel)
theorem dX8_grindsIn_28 : decode cX8_grindsIn 28 = .ok (.aload_n 0, 1) := dk_42 (by decide +kernel)
theorem dX8_grindsIn_29 : decode cX8_grindsIn 29 = .ok (.iconst 0, 1) := dk_3 (by decide +kernel)
theorem dX8_grindsIn_30 : decode cX8_grindsIn 30 = .ok (.iload_n 2, 1) := dk_28 (by decide +kernel)
theorem dX8_grindsIn_31 : decode cX8_grindsIn 31 = .ok (.invokevirtual 223, 3) := dk_182 (by decide +kernel)
theorem dX8_grindsIn_34 : decode cX8_grindsIn 34 = .ok (.iconst 3, 1) := dk_6 (by decide +kernel)
theorem dX8_grindsIn_35 : decode cX8_grindsIn 35 = .ok (.imul, 1) := dk_104 (by decide +kernel)
theorem dX8_grindsIn_36 : decode cX8_grindsIn 36 = .ok (.ireturn, 1) := dk_172 (by decide +kernel)
theorem dX8_grindsIn_4 : decode cX8_grindsIn 4 = .ok (.aload_n 0, 1) := dk_42 (by decide +kernel)
theorem dX8_grindsIn_5 : decode cX8_grindsIn 5 = .ok (.bipush 10, 2) := dk_16 (by decide +kernel)
theorem dX8_grindsIn_7 : decode cX8_grindsIn 7 = .ok (.invokevirtual 217, 3) := dk_182 (by decide +kernel)
theorem dX8_grindsIn_10 : decode cX8_grindsIn 10 = .ok (.iload_n 2, 1) := dk_28 (by decide +kernel)
theorem dX8_grindsIn_11 : decode cX8_grindsIn 11 = .ok (.aload_n 0, 1) := dk_42 (by decide +kernel)
theorem dX8_grindsIn_12 : decode cX8_grindsIn 12 = .ok (.getfield 220, 3) := dk_180 (by decide +kernel)
theorem dX8_grindsIn_15 : decode cX8_grindsIn 15 = .ok (.iadd, 1) := dk_96 (by decide +kernel)
theorem dX8_grindsIn_16 : decode cX8_grindsIn 16 = .ok (.ireturn, 1) := dk_172 (by decide +kernel)
set_option maxRecDepth 100000 in
set_option maxHeartbeats 8000000 in
theorem xg_X8_grindsIn (l : Launch) (D : va_G) (y : wY) (ad : Nat → Nat) : ∀ n : Nat, (∀ (i1 : Int32) (i2 : Int32) (M : Mem) (K : Int32 → Mem → Prop), wp_X8_grindsIn n i1 i2 M K → MI l D y ad yX8_grindsIn (Cond.code yX8_grindsIn cX8_grindsIn 3 (some .int)) (n + 1) M [.ref (ad 79), .int i1, .int i2] K) := by
  intro n0
  induction n0 with
  | zero => (intros; rename_i h; exact False.elim h)
  | succ n0 ih =>
    intro i1 i2 M K h
    refine MI_of (by decide) (Nat.le_of_ble_eq_true rfl) ?_
    intro p e s m args below meth c X hr hlocks
    replace h : wpb_X8_grindsIn (wp_X8_grindsIn n0) i1 i2 M K := h
    delta wpb_X8_grindsIn at h
    refine j_lv (lv1 := [(0, .ref (ad 79)), (1, .int i1), (2, .int i2)]) [0, 1, 2] rfl ?_
    refine j_iload_n X 1 rfl rfl dX8_grindsIn_0 ?_
    refine j_if_ne X 17 (by decide) dX8_grindsIn_1 (fun q_1 => ?_) (fun q_1 => ?_)
    · replace h := h.1 q_1
      refine j_iload_n X 1 rfl rfl dX8_grindsIn_17 ?_
      refine j_iconst X (v := 1) (by decide) dX8_grindsIn_18 ?_
      refine j_icmp_ne X 37 (by decide) dX8_grindsIn_19 (fun q_2 => ?_) (fun q_2 => ?_)
      · replace h := h.1 q_2
        refine j_aload_n X 0 rfl rfl dX8_grindsIn_37 ?_
        refine j_iload_n X 1 rfl rfl dX8_grindsIn_38 ?_
        refine j_callSI X (nn := 1) (As := [.int i1]) (st := [.ref (ad 79)]) aw_299 (x_X8_above l D y ad i1 _ _ h) aw_298 aw_300 aw_5 (by decide +kernel) ⟨(by show _ + 1 ≤ _ + 1 + _; omega), (by show 8 + (_ + 11) + 60 * _ ≤ 60 * _; omega)⟩ rfl (Nat.le_of_ble_eq_true rfl) ⟨Nat.le_of_ble_eq_true rfl, Nat.le_of_ble_eq_true rfl⟩ dX8_grindsIn_39 ?_
        intro r3 M3 h
        refine j_iload_n X 2 rfl rfl dX8_grindsIn_42 ?_
        refine j_callVI X (nn := 2) (As := [.int r3, .int i2]) (st := []) (ci := 8) cl_79.1 (wE_8 _ cl_79.2) rfl aw_781 aw_782 (ih r3 i2 _ _ h) aw_780 aw_783 aw_5 (by decide +kernel) ⟨(by show _ + 1 ≤ _ + 1 + _; omega), (by show 8 + (_ + 11) + 60 * _ ≤ 60 * _; omega)⟩ rfl (Nat.le_of_ble_eq_true rfl) ⟨Nat.le_of_ble_eq_true rfl, Nat.le_of_ble_eq_true rfl⟩ dX8_grindsIn_43 ?_
        intro r4 M4 h
        exact j_iret X hr hlocks dX8_grindsIn_46 h
      · replace h := h.2 q_2
        refine j_aload_n X 0 rfl rfl dX8_grindsIn_22 ?_
        refine j_bipush X (v := 20) (by decide) dX8_grindsIn_23 ?_
        refine j_callVV X (nn := 1) (As := [.int 20]) (st := []) (ci := 8) cl_79.1 (wE_8 _ cl_79.2) rfl aw_785 aw_786 (x_X8_ran l D y ad 20 _ _ h) aw_784 aw_787 aw_5 (by decide +kernel) ⟨(by show _ + 1 ≤ _ + 1 + _; omega), (by show 8 + (_ + 11) + 60 * _ ≤ 60 * _; omega)⟩ rfl (Nat.le_of_ble_eq_true rfl) ⟨Nat.le_of_ble_eq_true rfl, Nat.le_of_ble_eq_true rfl⟩ dX8_grindsIn_25 ?_
        intro M5 h
        refine j_aload_n X 0 rfl rfl dX8_grindsIn_28 ?_
        refine j_iconst X (v := 0) (by decide) dX8_grindsIn_29 ?_
        refine j_iload_n X 2 rfl rfl dX8_grindsIn_30 ?_
        refine j_callVI X (nn := 2) (As := [.int 0, .int i2]) (st := []) (ci := 8) cl_79.1 (wE_8 _ cl_79.2) rfl aw_781 aw_782 (ih 0 i2 _ _ h) aw_780 aw_783 aw_5 (by decide +kernel) ⟨(by show _ + 1 ≤ _ + 1 + _; omega), (by show 8 + (_ + 11) + 60 * _ ≤ 60 * _; omega)⟩ rfl (Nat.le_of_ble_eq_true rfl) ⟨Nat.le_of_ble_eq_true rfl, Nat.le_of_ble_eq_true rfl⟩ dX8_grindsIn_31 ?_
        intro r6 M6 h
        refine j_iconst X (v := 3) (by decide) dX8_grindsIn_34 ?_
        refine j_imul X dX8_grindsIn_35 ?_
        exact j_iret X hr hlocks dX8_grindsIn_36 h
    · replace h := h.2 q_1
      refine j_aload_n X 0 rfl rfl dX8_grindsIn_4 ?_
      refine j_bipush X (v := 10) (by decide) dX8_grindsIn_5 ?_
      refine j_callVV X (nn := 1) (As := [.int 10]) (st := []) (ci := 8) cl_79.1 (wE_8 _ cl_79.2) rfl aw_785 aw_786 (x_X8_ran l D y ad 10 _ _ h) aw_784 aw_787 aw_5 (by decide +kernel) ⟨(by show _ + 1 ≤ _ + 1 + _; omega), (by show 8 + (_ + 11) + 60 * _ ≤ 60 * _; omega)⟩ rfl (Nat.le_of_ble_eq_true rfl) ⟨Nat.le_of_ble_eq_true rfl, Nat.le_of_ble_eq_true rfl⟩ dX8_grindsIn_7 ?_
      intro M7 h
      refine j_iload_n X 2 rfl rfl dX8_grindsIn_10 ?_
      refine j_aload_n X 0 rfl rfl dX8_grindsIn_11 ?_
      refine j_get X cl_79.1 (wE_8 _ cl_79.2) rfl awF8 22 (by decide) aw_778 rfl (v := .int (M7 79 22)) rfl dX8_grindsIn_12 ?_
      refine j_iadd X dX8_grindsIn_15 ?_
      exact j_iret X hr hlocks dX8_grindsIn_16 h
theorem x_X8_grindsIn (l : Launch) (D : va_G) (y : wY) (ad : Nat → Nat) (n : Nat) (i1 : Int32) (i2 : Int32) (M : Mem) (K : Int32 → Mem → Prop) (h : wp_X8_grindsIn n i1 i2 M K) : MI l D y ad yX8_grindsIn (Cond.code yX8_grindsIn cX8_grindsIn 3 (some .int)) (n + 1) M [.ref (ad 79), .int i1, .int i2] K := (xg_X8_grindsIn l D y ad n) i1 i2 M K h
theorem dX8_sparksIn_0 : decode cX8_sparksIn 0 = .ok (.iload_n 1, 1) := dk_27 (by decide +kernel)
theorem dX8_sparksIn_1 : decode cX8_sparksIn 1 = .ok (.ifCond .ne 16, 3) := dk_154 (by decide +kernel)
theorem dX8_sparksIn_17 : decode cX8_sparksIn 17 = .ok (.iload_n 1, 1) := dk_27 (by decide +kernel)
theorem dX8_sparksIn_18 : decode cX8_sparksIn 18 = .ok (.iconst 3, 1) := dk_6 (by decide +kernel)
theorem dX8_sparksIn_19 : decode cX8_sparksIn 19 = .ok (.if_icmp .ne 17, 3) := dk_160 (by decide +kernel)
theorem dX8_sparksIn_36 : decode cX8_sparksIn 36 = .ok (.iload_n 1, 1) := dk_27 (by decide +kernel)
theorem dX8_sparksIn_37 : decode cX8_sparksIn 37 = .ok (.bipush 6, 2) := dk_16 (by decide +kernel)
theorem dX8_sparksIn_39 : decode cX8_sparksIn 39 = .ok (.if_icmp .ne 21, 3) := dk_160 (by decide +kernel)
theorem dX8_sparksIn_60 : decode cX8_sparksIn 60 = .ok (.aload_n 0, 1) := dk_42 (by decide +kernel)
theorem dX8_sparksIn_61 : decode cX8_sparksIn 61 = .ok (.iload_n 1, 1) := dk_27 (by decide +kernel)
theorem dX8_sparksIn_62 : decode cX8_sparksIn 62 = .ok (.invokestatic 85, 3) := dk_184 (by decide +kernel)
theorem dX8_sparksIn_65 : decode cX8_sparksIn 65 = .ok (.iload_n 2, 1) := dk_28 (by decide +kernel)
theorem dX8_sparksIn_66 : decode cX8_sparksIn 66 = .ok (.invokevirtual 229, 3) := dk_182 (by decide +kernel)
theorem dX8_sparksIn_69 : decode cX8_sparksIn 69 = .ok (.ireturn, 1) := dk_172 (by decide +kernel)
theorem dX8_sparksIn_42 : decode cX8_sparksIn 42 = .ok (.aload_n 0, 1) := dk_42 (by decide +kernel)
theorem dX8_sparksIn_43 : decode cX8_sparksIn 43 = .ok (.bipush 70, 2) := dk_16 (by decide +kernel)
theorem dX8_sparksIn_45 : decode cX8_sparksIn 45 = .ok (.invokevirtual 217, 3) := dk_182 (by decide +kernel)
theorem dX8_sparksIn_48 : decode cX8_sparksIn 48 = .ok (.aload_n 0, 1) := dk_42 (by decide +kernel)
theorem dX8_sparksIn_49 : decode cX8_sparksIn 49 = .ok (.iconst 3, 1) := dk_6 (by decide +kernel)
theorem dX8_sparksIn_50 : decode cX8_sparksIn 50 = .ok (.iload_n 2, 1) := dk_28 (by decide +kernel)
theorem dX8_sparksIn_51 : decode cX8_sparksIn 51 = .ok (.invokevirtual 229, 3) := dk_182 (by decide +kernel)
theorem dX8_sparksIn_54 : decode cX8_sparksIn 54 = .ok (.aload_n 0, 1) := dk_42 (by decide +kernel)
theorem dX8_sparksIn_55 : decode cX8_sparksIn 55 = .ok (.getfield 220, 3) := dk_180 (by decide +kernel)
theorem dX8_sparksIn_58 : decode cX8_sparksIn 58 = .ok (.ixor, 1) := dk_130 (by decide +kernel)
theorem dX8_sparksIn_59 : decode cX8_sparksIn 59 = .ok (.ireturn, 1) := dk_172 (by decide +kernel)
theorem dX8_sparksIn_22 : decode cX8_sparksIn 22 = .ok (.aload_n 0, 1) := dk_42 (by decide +kernel)
theorem dX8_sparksIn_23 : decode cX8_sparksIn 23 = .ok (.bipush 40, 2) := dk_16 (by decide +kernel)
theorem dX8_sparksIn_25 : decode cX8_sparksIn 25 = .ok (.invokevirtual 217, 3) := dk_182 (by decide +kernel)
theorem dX8_sparksIn_28 : decode cX8_sparksIn 28 = .ok (.aload_n 0, 1) := dk_42 (by decide +kernel)
theorem dX8_sparksIn_29 : decode cX8_sparksIn 29 = .ok (.iconst 0, 1) := dk_3 (by decide +kernel)
theorem dX8_sparksIn_30 : decode cX8_sparksIn 30 = .ok (.iload_n 2, 1) := dk_28 (by decide +kernel)
theorem dX8_sparksIn_31 : decode cX8_sparksIn 31 = .ok (.invokevirtual 229, 3) := dk_182 (by decide +kernel)
theorem dX8_sparksIn_34 : decode cX8_sparksIn 34 = .ok (.ineg, 1) := by decide +kernel
theorem dX8_sparksIn_35 : decode cX8_sparksIn 35 = .ok (.ireturn, 1) := dk_172 (by decide +kernel)
theorem dX8_sparksIn_4 : decode cX8_sparksIn 4 = .ok (.aload_n 0, 1) := dk_42 (by decide +kernel)
theorem dX8_sparksIn_5 : decode cX8_sparksIn 5 = .ok (.bipush 12, 2) := dk_16 (by decide +kernel)
theorem dX8_sparksIn_7 : decode cX8_sparksIn 7 = .ok (.invokevirtual 217, 3) := dk_182 (by decide +kernel)
theorem dX8_sparksIn_10 : decode cX8_sparksIn 10 = .ok (.iload_n 2, 1) := dk_28 (by decide +kernel)
theorem dX8_sparksIn_11 : decode cX8_sparksIn 11 = .ok (.aload_n 0, 1) := dk_42 (by decide +kernel)
theorem dX8_sparksIn_12 : decode cX8_sparksIn 12 = .ok (.getfield 226, 3) := dk_180 (by decide +kernel)
theorem dX8_sparksIn_15 : decode cX8_sparksIn 15 = .ok (.isub, 1) := dk_100 (by decide +kernel)
theorem dX8_sparksIn_16 : decode cX8_sparksIn 16 = .ok (.ireturn, 1) := dk_172 (by decide +kernel)
set_option maxRecDepth 100000 in
set_option maxHeartbeats 8000000 in
theorem xg_X8_sparksIn (l : Launch) (D : va_G) (y : wY) (ad : Nat → Nat) : ∀ n : Nat, (∀ (i1 : Int32) (i2 : Int32) (M : Mem) (K : Int32 → Mem → Prop), wp_X8_sparksIn n i1 i2 M K → MI l D y ad yX8_sparksIn (Cond.code yX8_sparksIn cX8_sparksIn 3 (some .int)) (n + 1) M [.ref (ad 79), .int i1, .int i2] K) := by
  intro n0
  induction n0 with
  | zero => (intros; rename_i h; exact False.elim h)
  | succ n0 ih =>
    intro i1 i2 M K h
    refine MI_of (by decide) (Nat.le_of_ble_eq_true rfl) ?_
    intro p e s m args below meth c X hr hlocks
    replace h : wpb_X8_sparksIn (wp_X8_sparksIn n0) i1 i2 M K := h
    delta wpb_X8_sparksIn at h
    refine j_lv (lv1 := [(0, .ref (ad 79)), (1, .int i1), (2, .int i2)]) [0, 1, 2] rfl ?_
    refine j_iload_n X 1 rfl rfl dX8_sparksIn_0 ?_
    refine j_if_ne X 17 (by decide) dX8_sparksIn_1 (fun q_1 => ?_) (fun q_1 => ?_)
    · replace h := h.1 q_1
      refine j_iload_n X 1 rfl rfl dX8_sparksIn_17 ?_
      refine j_iconst X (v := 3) (by decide) dX8_sparksIn_18 ?_
      refine j_icmp_ne X 36 (by decide) dX8_sparksIn_19 (fun q_2 => ?_) (fun q_2 => ?_)
      · replace h := h.1 q_2
        refine j_iload_n X 1 rfl rfl dX8_sparksIn_36 ?_
        refine j_bipush X (v := 6) (by decide) dX8_sparksIn_37 ?_
        refine j_icmp_ne X 60 (by decide) dX8_sparksIn_39 (fun q_3 => ?_) (fun q_3 => ?_)
        · replace h := h.1 q_3
          refine j_aload_n X 0 rfl rfl dX8_sparksIn_60 ?_
          refine j_iload_n X 1 rfl rfl dX8_sparksIn_61 ?_
          refine j_callSI X (nn := 1) (As := [.int i1]) (st := [.ref (ad 79)]) aw_299 (x_X8_above l D y ad i1 _ _ h) aw_298 aw_300 aw_5 (by decide +kernel) ⟨(by show _ + 1 ≤ _ + 1 + _; omega), (by show 8 + (_ + 11) + 60 * _ ≤ 60 * _; omega)⟩ rfl (Nat.le_of_ble_eq_true rfl) ⟨Nat.le_of_ble_eq_true rfl, Nat.le_of_ble_eq_true rfl⟩ dX8_sparksIn_62 ?_
          intro r4 M4 h
          refine j_iload_n X 2 rfl rfl dX8_sparksIn_65 ?_
          refine j_callVI X (nn := 2) (As := [.int r4, .int i2]) (st := []) (ci := 8) cl_79.1 (wE_8 _ cl_79.2) rfl aw_793 aw_794 (ih r4 i2 _ _ h) aw_792 aw_795 aw_5 (by decide +kernel) ⟨(by show _ + 1 ≤ _ + 1 + _; omega), (by show 8 + (_ + 11) + 60 * _ ≤ 60 * _; omega)⟩ rfl (Nat.le_of_ble_eq_true rfl) ⟨Nat.le_of_ble_eq_true rfl, Nat.le_of_ble_eq_true rfl⟩ dX8_sparksIn_66 ?_
          intro r5 M5 h
          exact j_iret X hr hlocks dX8_sparksIn_69 h
        · replace h := h.2 q_3
          refine j_aload_n X 0 rfl rfl dX8_sparksIn_42 ?_
          refine j_bipush X (v := 70) (by decide) dX8_sparksIn_43 ?_
          refine j_callVV X (nn := 1) (As := [.int 70]) (st := []) (ci := 8) cl_79.1 (wE_8 _ cl_79.2) rfl aw_785 aw_786 (x_X8_ran l D y ad 70 _ _ h) aw_784 aw_787 aw_5 (by decide +kernel) ⟨(by show _ + 1 ≤ _ + 1 + _; omega), (by show 8 + (_ + 11) + 60 * _ ≤ 60 * _; omega)⟩ rfl (Nat.le_of_ble_eq_true rfl) ⟨Nat.le_of_ble_eq_true rfl, Nat.le_of_ble_eq_true rfl⟩ dX8_sparksIn_45 ?_
          intro M6 h
          refine j_aload_n X 0 rfl rfl dX8_sparksIn_48 ?_
          refine j_iconst X (v := 3) (by decide) dX8_sparksIn_49 ?_
          refine j_iload_n X 2 rfl rfl dX8_sparksIn_50 ?_
          refine j_callVI X (nn := 2) (As := [.int 3, .int i2]) (st := []) (ci := 8) cl_79.1 (wE_8 _ cl_79.2) rfl aw_793 aw_794 (ih 3 i2 _ _ h) aw_792 aw_795 aw_5 (by decide +kernel) ⟨(by show _ + 1 ≤ _ + 1 + _; omega), (by show 8 + (_ + 11) + 60 * _ ≤ 60 * _; omega)⟩ rfl (Nat.le_of_ble_eq_true rfl) ⟨Nat.le_of_ble_eq_true rfl, Nat.le_of_ble_eq_true rfl⟩ dX8_sparksIn_51 ?_
          intro r7 M7 h
          refine j_aload_n X 0 rfl rfl dX8_sparksIn_54 ?_
          refine j_get X cl_79.1 (wE_8 _ cl_79.2) rfl awF8 22 (by decide) aw_778 rfl (v := .int (M7 79 22)) rfl dX8_sparksIn_55 ?_
          refine j_ixor X dX8_sparksIn_58 ?_
          exact j_iret X hr hlocks dX8_sparksIn_59 h
      · replace h := h.2 q_2
        refine j_aload_n X 0 rfl rfl dX8_sparksIn_22 ?_
        refine j_bipush X (v := 40) (by decide) dX8_sparksIn_23 ?_
        refine j_callVV X (nn := 1) (As := [.int 40]) (st := []) (ci := 8) cl_79.1 (wE_8 _ cl_79.2) rfl aw_785 aw_786 (x_X8_ran l D y ad 40 _ _ h) aw_784 aw_787 aw_5 (by decide +kernel) ⟨(by show _ + 1 ≤ _ + 1 + _; omega), (by show 8 + (_ + 11) + 60 * _ ≤ 60 * _; omega)⟩ rfl (Nat.le_of_ble_eq_true rfl) ⟨Nat.le_of_ble_eq_true rfl, Nat.le_of_ble_eq_true rfl⟩ dX8_sparksIn_25 ?_
        intro M8 h
        refine j_aload_n X 0 rfl rfl dX8_sparksIn_28 ?_
        refine j_iconst X (v := 0) (by decide) dX8_sparksIn_29 ?_
        refine j_iload_n X 2 rfl rfl dX8_sparksIn_30 ?_
        refine j_callVI X (nn := 2) (As := [.int 0, .int i2]) (st := []) (ci := 8) cl_79.1 (wE_8 _ cl_79.2) rfl aw_793 aw_794 (ih 0 i2 _ _ h) aw_792 aw_795 aw_5 (by decide +kernel) ⟨(by show _ + 1 ≤ _ + 1 + _; omega), (by show 8 + (_ + 11) + 60 * _ ≤ 60 * _; omega)⟩ rfl (Nat.le_of_ble_eq_true rfl) ⟨Nat.le_of_ble_eq_true rfl, Nat.le_of_ble_eq_true rfl⟩ dX8_sparksIn_31 ?_
        intro r9 M9 h
        refine j_ineg X dX8_sparksIn_34 ?_
        exact j_iret X hr hlocks dX8_sparksIn_35 h
    · replace h := h.2 q_1
      refine j_aload_n X 0 rfl rfl dX8_sparksIn_4 ?_
      refine j_bipush X (v := 12) (by decide) dX8_sparksIn_5 ?_
      refine j_callVV X (nn := 1) (As := [.int 12]) (st := []) (ci := 8) cl_79.1 (wE_8 _ cl_79.2) rfl aw_785 aw_786 (x_X8_ran l D y ad 12 _ _ h) aw_784 aw_787 aw_5 (by decide +kernel) ⟨(by show _ + 1 ≤ _ + 1 + _; omega), (by show 8 + (_ + 11) + 60 * _ ≤ 60 * _; omega)⟩ rfl (Nat.le_of_ble_eq_true rfl) ⟨Nat.le_of_ble_eq_true rfl, Nat.le_of_ble_eq_true rfl⟩ dX8_sparksIn_7 ?_
      intro M10 h
      refine j_iload_n X 2 rfl rfl dX8_sparksIn_10 ?_
      refine j_aload_n X 0 rfl rfl dX8_sparksIn_11 ?_
      refine j_get X cl_79.1 (wE_8 _ cl_79.2) rfl awF8 23 (by decide) aw_779 rfl (v := .int (M10 79 23)) rfl dX8_sparksIn_12 ?_
      refine j_isub X dX8_sparksIn_15 ?_
      exact j_iret X hr hlocks dX8_sparksIn_16 h
theorem x_X8_sparksIn (l : Launch) (D : va_G) (y : wY) (ad : Nat → Nat) (n : Nat) (i1 : Int32) (i2 : Int32) (M : Mem) (K : Int32 → Mem → Prop) (h : wp_X8_sparksIn n i1 i2 M K) : MI l D y ad yX8_sparksIn (Cond.code yX8_sparksIn cX8_sparksIn 3 (some .int)) (n + 1) M [.ref (ad 79), .int i1, .int i2] K := (xg_X8_sparksIn l D y ad n) i1 i2 M K h
theorem dX8_cutsIn_0 : decode cX8_cutsIn 0 = .ok (.iload_n 1, 1) := dk_27 (by decide +kernel)
theorem dX8_cutsIn_1 : decode cX8_cutsIn 1 = .ok (.ifCond .ne 21, 3) := dk_154 (by decide +kernel)
theorem dX8_cutsIn_22 : decode cX8_cutsIn 22 = .ok (.iload_n 1, 1) := dk_27 (by decide +kernel)
theorem dX8_cutsIn_23 : decode cX8_cutsIn 23 = .ok (.iconst 2, 1) := dk_5 (by decide +kernel)
theorem dX8_cutsIn_24 : decode cX8_cutsIn 24 = .ok (.if_icmp .ne 28, 3) := dk_160 (by decide +kernel)
theorem dX8_cutsIn_52 : decode cX8_cutsIn 52 = .ok (.iload_n 1, 1) := dk_27 (by decide +kernel)
theorem dX8_cutsIn_53 : decode cX8_cutsIn 53 = .ok (.iconst 5, 1) := dk_8 (by decide +kernel)
theorem dX8_cutsIn_54 : decode cX8_cutsIn 54 = .ok (.if_icmp .ne 18, 3) := dk_160 (by decide +kernel)
theorem dX8_cutsIn_72 : decode cX8_cutsIn 72 = .ok (.aload_n 0, 1) := dk_42 (by decide +kernel)
theorem dX8_cutsIn_73 : decode cX8_cutsIn 73 = .ok (.iload_n 1, 1) := dk_27 (by decide +kernel)
theorem dX8_cutsIn_74 : decode cX8_cutsIn 74 = .ok (.invokestatic 85, 3) := dk_184 (by decide +kernel)
theorem dX8_cutsIn_77 : decode cX8_cutsIn 77 = .ok (.iload_n 2, 1) := dk_28 (by decide +kernel)
theorem dX8_cutsIn_78 : decode cX8_cutsIn 78 = .ok (.invokevirtual 235, 3) := dk_182 (by decide +kernel)
theorem dX8_cutsIn_81 : decode cX8_cutsIn 81 = .ok (.ireturn, 1) := dk_172 (by decide +kernel)
theorem dX8_cutsIn_57 : decode cX8_cutsIn 57 = .ok (.aload_n 0, 1) := dk_42 (by decide +kernel)
theorem dX8_cutsIn_58 : decode cX8_cutsIn 58 = .ok (.bipush 60, 2) := dk_16 (by decide +kernel)
theorem dX8_cutsIn_60 : decode cX8_cutsIn 60 = .ok (.invokevirtual 217, 3) := dk_182 (by decide +kernel)
theorem dX8_cutsIn_63 : decode cX8_cutsIn 63 = .ok (.aload_n 0, 1) := dk_42 (by decide +kernel)
theorem dX8_cutsIn_64 : decode cX8_cutsIn 64 = .ok (.iconst 2, 1) := dk_5 (by decide +kernel)
theorem dX8_cutsIn_65 : decode cX8_cutsIn 65 = .ok (.iload_n 2, 1) := dk_28 (by decide +kernel)
theorem dX8_cutsIn_66 : decode cX8_cutsIn 66 = .ok (.iconst 1, 1) := dk_4 (by decide +kernel)
theorem dX8_cutsIn_67 : decode cX8_cutsIn 67 = .ok (.iadd, 1) := dk_96 (by decide +kernel)
theorem dX8_cutsIn_68 : decode cX8_cutsIn 68 = .ok (.invokevirtual 235, 3) := dk_182 (by decide +kernel)
theorem dX8_cutsIn_71 : decode cX8_cutsIn 71 = .ok (.ireturn, 1) := dk_172 (by decide +kernel)
theorem dX8_cutsIn_27 : decode cX8_cutsIn 27 = .ok (.aload_n 0, 1) := dk_42 (by decide +kernel)
theorem dX8_cutsIn_28 : decode cX8_cutsIn 28 = .ok (.bipush 30, 2) := dk_16 (by decide +kernel)
theorem dX8_cutsIn_30 : decode cX8_cutsIn 30 = .ok (.invokevirtual 217, 3) := dk_182 (by decide +kernel)
theorem dX8_cutsIn_33 : decode cX8_cutsIn 33 = .ok (.aload_n 0, 1) := dk_42 (by decide +kernel)
theorem dX8_cutsIn_34 : decode cX8_cutsIn 34 = .ok (.iconst 0, 1) := dk_3 (by decide +kernel)
theorem dX8_cutsIn_35 : decode cX8_cutsIn 35 = .ok (.iload_n 2, 1) := dk_28 (by decide +kernel)
theorem dX8_cutsIn_36 : decode cX8_cutsIn 36 = .ok (.invokevirtual 235, 3) := dk_182 (by decide +kernel)
theorem dX8_cutsIn_39 : decode cX8_cutsIn 39 = .ok (.istore_n 3, 1) := dk_62 (by decide +kernel)
theorem dX8_cutsIn_40 : decode cX8_cutsIn 40 = .ok (.iload_n 3, 1) := dk_29 (by decide +kernel)
theorem dX8_cutsIn_41 : decode cX8_cutsIn 41 = .ok (.aload_n 0, 1) := dk_42 (by decide +kernel)
theorem dX8_cutsIn_42 : decode cX8_cutsIn 42 = .ok (.aload_n 0, 1) := dk_42 (by decide +kernel)
theorem dX8_cutsIn_43 : decode cX8_cutsIn 43 = .ok (.getfield 232, 3) := dk_180 (by decide +kernel)
theorem dX8_cutsIn_46 : decode cX8_cutsIn 46 = .ok (.iconst 1, 1) := dk_4 (by decide +kernel)
theorem dX8_cutsIn_47 : decode cX8_cutsIn 47 = .ok (.invokevirtual 229, 3) := dk_182 (by decide +kernel)
theorem dX8_cutsIn_50 : decode cX8_cutsIn 50 = .ok (.isub, 1) := dk_100 (by decide +kernel)
theorem dX8_cutsIn_51 : decode cX8_cutsIn 51 = .ok (.ireturn, 1) := dk_172 (by decide +kernel)
theorem dX8_cutsIn_4 : decode cX8_cutsIn 4 = .ok (.aload_n 0, 1) := dk_42 (by decide +kernel)
theorem dX8_cutsIn_5 : decode cX8_cutsIn 5 = .ok (.bipush 11, 2) := dk_16 (by decide +kernel)
theorem dX8_cutsIn_7 : decode cX8_cutsIn 7 = .ok (.invokevirtual 217, 3) := dk_182 (by decide +kernel)
theorem dX8_cutsIn_10 : decode cX8_cutsIn 10 = .ok (.aload_n 0, 1) := dk_42 (by decide +kernel)
theorem dX8_cutsIn_11 : decode cX8_cutsIn 11 = .ok (.aload_n 0, 1) := dk_42 (by decide +kernel)
theorem dX8_cutsIn_12 : decode cX8_cutsIn 12 = .ok (.getfield 232, 3) := dk_180 (by decide +kernel)
theorem dX8_cutsIn_15 : decode cX8_cutsIn 15 = .ok (.iload_n 2, 1) := dk_28 (by decide +kernel)
theorem dX8_cutsIn_16 : decode cX8_cutsIn 16 = .ok (.invokevirtual 223, 3) := dk_182 (by decide +kernel)
theorem dX8_cutsIn_19 : decode cX8_cutsIn 19 = .ok (.iconst 2, 1) := dk_5 (by decide +kernel)
theorem dX8_cutsIn_20 : decode cX8_cutsIn 20 = .ok (.imul, 1) := dk_104 (by decide +kernel)
theorem dX8_cutsIn_21 : decode cX8_cutsIn 21 = .ok (.ireturn, 1) := dk_172 (by decide +kernel)
set_option maxRecDepth 100000 in
set_option maxHeartbeats 8000000 in
theorem xg_X8_cutsIn (l : Launch) (D : va_G) (y : wY) (ad : Nat → Nat) : ∀ n : Nat, (∀ (i1 : Int32) (i2 : Int32) (M : Mem) (K : Int32 → Mem → Prop), wp_X8_cutsIn n i1 i2 M K → MI l D y ad yX8_cutsIn (Cond.code yX8_cutsIn cX8_cutsIn 4 (some .int)) (n + 10) M [.ref (ad 79), .int i1, .int i2] K) := by
  intro n0
  induction n0 with
  | zero => (intros; rename_i h; exact False.elim h)
  | succ n0 ih =>
    intro i1 i2 M K h
    refine MI_of (by decide) (Nat.le_of_ble_eq_true rfl) ?_
    intro p e s m args below meth c X hr hlocks
    replace h : wpb_X8_cutsIn (wp_X8_cutsIn n0) i1 i2 M K := h
    delta wpb_X8_cutsIn at h
    refine j_lv (lv1 := [(0, .ref (ad 79)), (1, .int i1), (2, .int i2)]) [0, 1, 2] rfl ?_
    refine j_iload_n X 1 rfl rfl dX8_cutsIn_0 ?_
    refine j_if_ne X 22 (by decide) dX8_cutsIn_1 (fun q_1 => ?_) (fun q_1 => ?_)
    · replace h := h.1 q_1
      refine j_iload_n X 1 rfl rfl dX8_cutsIn_22 ?_
      refine j_iconst X (v := 2) (by decide) dX8_cutsIn_23 ?_
      refine j_icmp_ne X 52 (by decide) dX8_cutsIn_24 (fun q_2 => ?_) (fun q_2 => ?_)
      · replace h := h.1 q_2
        refine j_iload_n X 1 rfl rfl dX8_cutsIn_52 ?_
        refine j_iconst X (v := 5) (by decide) dX8_cutsIn_53 ?_
        refine j_icmp_ne X 72 (by decide) dX8_cutsIn_54 (fun q_3 => ?_) (fun q_3 => ?_)
        · replace h := h.1 q_3
          refine j_aload_n X 0 rfl rfl dX8_cutsIn_72 ?_
          refine j_iload_n X 1 rfl rfl dX8_cutsIn_73 ?_
          refine j_callSI X (nn := 1) (As := [.int i1]) (st := [.ref (ad 79)]) aw_299 (x_X8_above l D y ad i1 _ _ h) aw_298 aw_300 aw_5 (by decide +kernel) ⟨(by show _ + 1 ≤ _ + 1 + _; omega), (by show 8 + (_ + 11) + 60 * _ ≤ 60 * _; omega)⟩ rfl (Nat.le_of_ble_eq_true rfl) ⟨Nat.le_of_ble_eq_true rfl, Nat.le_of_ble_eq_true rfl⟩ dX8_cutsIn_74 ?_
          intro r4 M4 h
          refine j_iload_n X 2 rfl rfl dX8_cutsIn_77 ?_
          refine j_callVI X (nn := 2) (As := [.int r4, .int i2]) (st := []) (ci := 8) cl_79.1 (wE_8 _ cl_79.2) rfl aw_789 aw_790 (ih r4 i2 _ _ h) aw_788 aw_791 aw_5 (by decide +kernel) ⟨(by show _ + 1 ≤ _ + 1 + _; omega), (by show 8 + (_ + 11) + 60 * _ ≤ 60 * _; omega)⟩ rfl (Nat.le_of_ble_eq_true rfl) ⟨Nat.le_of_ble_eq_true rfl, Nat.le_of_ble_eq_true rfl⟩ dX8_cutsIn_78 ?_
          intro r5 M5 h
          exact j_iret X hr hlocks dX8_cutsIn_81 h
        · replace h := h.2 q_3
          refine j_aload_n X 0 rfl rfl dX8_cutsIn_57 ?_
          refine j_bipush X (v := 60) (by decide) dX8_cutsIn_58 ?_
          refine j_callVV X (nn := 1) (As := [.int 60]) (st := []) (ci := 8) cl_79.1 (wE_8 _ cl_79.2) rfl aw_785 aw_786 (x_X8_ran l D y ad 60 _ _ h) aw_784 aw_787 aw_5 (by decide +kernel) ⟨(by show _ + 1 ≤ _ + 1 + _; omega), (by show 8 + (_ + 11) + 60 * _ ≤ 60 * _; omega)⟩ rfl (Nat.le_of_ble_eq_true rfl) ⟨Nat.le_of_ble_eq_true rfl, Nat.le_of_ble_eq_true rfl⟩ dX8_cutsIn_60 ?_
          intro M6 h
          refine j_aload_n X 0 rfl rfl dX8_cutsIn_63 ?_
          refine j_iconst X (v := 2) (by decide) dX8_cutsIn_64 ?_
          refine j_iload_n X 2 rfl rfl dX8_cutsIn_65 ?_
          refine j_iconst X (v := 1) (by decide) dX8_cutsIn_66 ?_
          refine j_iadd X dX8_cutsIn_67 ?_
          refine j_callVI X (nn := 2) (As := [.int 2, .int (i2 + 1)]) (st := []) (ci := 8) cl_79.1 (wE_8 _ cl_79.2) rfl aw_789 aw_790 (ih 2 (i2 + 1) _ _ h) aw_788 aw_791 aw_5 (by decide +kernel) ⟨(by show _ + 1 ≤ _ + 1 + _; omega), (by show 8 + (_ + 11) + 60 * _ ≤ 60 * _; omega)⟩ rfl (Nat.le_of_ble_eq_true rfl) ⟨Nat.le_of_ble_eq_true rfl, Nat.le_of_ble_eq_true rfl⟩ dX8_cutsIn_68 ?_
          intro r7 M7 h
          exact j_iret X hr hlocks dX8_cutsIn_71 h
      · replace h := h.2 q_2
        refine j_aload_n X 0 rfl rfl dX8_cutsIn_27 ?_
        refine j_bipush X (v := 30) (by decide) dX8_cutsIn_28 ?_
        refine j_callVV X (nn := 1) (As := [.int 30]) (st := []) (ci := 8) cl_79.1 (wE_8 _ cl_79.2) rfl aw_785 aw_786 (x_X8_ran l D y ad 30 _ _ h) aw_784 aw_787 aw_5 (by decide +kernel) ⟨(by show _ + 1 ≤ _ + 1 + _; omega), (by show 8 + (_ + 11) + 60 * _ ≤ 60 * _; omega)⟩ rfl (Nat.le_of_ble_eq_true rfl) ⟨Nat.le_of_ble_eq_true rfl, Nat.le_of_ble_eq_true rfl⟩ dX8_cutsIn_30 ?_
        intro M8 h
        refine j_aload_n X 0 rfl rfl dX8_cutsIn_33 ?_
        refine j_iconst X (v := 0) (by decide) dX8_cutsIn_34 ?_
        refine j_iload_n X 2 rfl rfl dX8_cutsIn_35 ?_
        refine j_callVI X (nn := 2) (As := [.int 0, .int i2]) (st := []) (ci := 8) cl_79.1 (wE_8 _ cl_79.2) rfl aw_789 aw_790 (ih 0 i2 _ _ h) aw_788 aw_791 aw_5 (by decide +kernel) ⟨(by show _ + 1 ≤ _ + 1 + _; omega), (by show 8 + (_ + 11) + 60 * _ ≤ 60 * _; omega)⟩ rfl (Nat.le_of_ble_eq_true rfl) ⟨Nat.le_of_ble_eq_true rfl, Nat.le_of_ble_eq_true rfl⟩ dX8_cutsIn_36 ?_
        intro r9 M9 h
        refine j_istore_n X [(3, .int r9), (0, .ref (ad 79)), (1, .int i1), (2, .int i2)] rfl (by decide) rfl dX8_cutsIn_39 ?_
        refine j_iload_n X 0 rfl rfl dX8_cutsIn_40 ?_
        refine j_aload_n X 1 rfl rfl dX8_cutsIn_41 ?_
        refine j_aload_n X 1 rfl rfl dX8_cutsIn_42 ?_
        refine j_get X cl_79.1 (wE_8 _ cl_79.2) rfl awF8 21 (by decide) aw_777 rfl (v := .int (M9 79 21)) rfl dX8_cutsIn_43 ?_
        refine j_iconst X (v := 1) (by decide) dX8_cutsIn_46 ?_
        refine j_callVI X (nn := 2) (As := [.int (M9 79 21), .int 1]) (st := [.int r9]) (ci := 8) cl_79.1 (wE_8 _ cl_79.2) rfl aw_793 aw_794 (x_X8_sparksIn l D y ad 8 (M9 79 21) 1 _ _ h) aw_792 aw_795 aw_5 (by decide +kernel) ⟨(by show _ + 1 ≤ _ + 1 + _; omega), (by show 8 + (_ + 11) + 60 * _ ≤ 60 * _; omega)⟩ rfl (Nat.le_of_ble_eq_true rfl) ⟨Nat.le_of_ble_eq_true rfl, Nat.le_of_ble_eq_true rfl⟩ dX8_cutsIn_47 ?_
        intro r10 M10 h
        refine j_isub X dX8_cutsIn_50 ?_
        exact j_iret X hr hlocks dX8_cutsIn_51 h
    · replace h := h.2 q_1
      refine j_aload_n X 0 rfl rfl dX8_cutsIn_4 ?_
      refine j_bipush X (v := 11) (by decide) dX8_cutsIn_5 ?_
      refine j_callVV X (nn := 1) (As := [.int 11]) (st := []) (ci := 8) cl_79.1 (wE_8 _ cl_79.2) rfl aw_785 aw_786 (x_X8_ran l D y ad 11 _ _ h) aw_784 aw_787 aw_5 (by decide +kernel) ⟨(by show _ + 1 ≤ _ + 1 + _; omega), (by show 8 + (_ + 11) + 60 * _ ≤ 60 * _; omega)⟩ rfl (Nat.le_of_ble_eq_true rfl) ⟨Nat.le_of_ble_eq_true rfl, Nat.le_of_ble_eq_true rfl⟩ dX8_cutsIn_7 ?_
      intro M11 h
      refine j_aload_n X 0 rfl rfl dX8_cutsIn_10 ?_
      refine j_aload_n X 0 rfl rfl dX8_cutsIn_11 ?_
      refine j_get X cl_79.1 (wE_8 _ cl_79.2) rfl awF8 21 (by decide) aw_777 rfl (v := .int (M11 79 21)) rfl dX8_cutsIn_12 ?_
      refine j_iload_n X 2 rfl rfl dX8_cutsIn_15 ?_
      refine j_callVI X (nn := 2) (As := [.int (M11 79 21), .int i2]) (st := []) (ci := 8) cl_79.1 (wE_8 _ cl_79.2) rfl aw_781 aw_782 (x_X8_grindsIn l D y ad 8 (M11 79 21) i2 _ _ h) aw_780 aw_783 aw_5 (by decide +kernel) ⟨(by show _ + 1 ≤ _ + 1 + _; omega), (by show 8 + (_ + 11) + 60 * _ ≤ 60 * _; omega)⟩ rfl (Nat.le_of_ble_eq_true rfl) ⟨Nat.le_of_ble_eq_true rfl, Nat.le_of_ble_eq_true rfl⟩ dX8_cutsIn_16 ?_
      intro r12 M12 h
      refine j_iconst X (v := 2) (by decide) dX8_cutsIn_19 ?_
      refine j_imul X dX8_cutsIn_20 ?_
      exact j_iret X hr hlocks dX8_cutsIn_21 h
theorem x_X8_cutsIn (l : Launch) (D : va_G) (y : wY) (ad : Nat → Nat) (n : Nat) (i1 : Int32) (i2 : Int32) (M : Mem) (K : Int32 → Mem → Prop) (h : wp_X8_cutsIn n i1 i2 M K) : MI l D y ad yX8_cutsIn (Cond.code yX8_cutsIn cX8_cutsIn 4 (some .int)) (n + 10) M [.ref (ad 79), .int i1, .int i2] K := (xg_X8_cutsIn l D y ad n) i1 i2 M K h
theorem dX8_tellsIn_0 : decode cX8_tellsIn 0 = .ok (.iload_n 1, 1) := dk_27 (by decide +kernel)
theorem dX8_tellsIn_1 : decode cX8_tellsIn 1 = .ok (.ifCond .ne 31, 3) := dk_154 (by decide +kernel)
theorem dX8_tellsIn_32 : decode cX8_tellsIn 32 = .ok (.iload_n 1, 1) := dk_27 (by decide +kernel)
theorem dX8_tellsIn_33 : decode cX8_tellsIn 33 = .ok (.iconst 4, 1) := dk_7 (by decide +kernel)
theorem dX8_tellsIn_34 : decode cX8_tellsIn 34 = .ok (.if_icmp .ne 28, 3) := dk_160 (by decide +kernel)
theorem dX8_tellsIn_62 : decode cX8_tellsIn 62 = .ok (.iload_n 1, 1) := dk_27 (by decide +kernel)
theorem dX8_tellsIn_63 : decode cX8_tellsIn 63 = .ok (.bipush 6, 2) := dk_16 (by decide +kernel)
theorem dX8_tellsIn_65 : decode cX8_tellsIn 65 = .ok (.if_icmp .ne 28, 3) := dk_160 (by decide +kernel)
theorem dX8_tellsIn_93 : decode cX8_tellsIn 93 = .ok (.aload_n 0, 1) := dk_42 (by decide +kernel)
theorem dX8_tellsIn_94 : decode cX8_tellsIn 94 = .ok (.iload_n 1, 1) := dk_27 (by decide +kernel)
theorem dX8_tellsIn_95 : decode cX8_tellsIn 95 = .ok (.invokestatic 85, 3) := dk_184 (by decide +kernel)
theorem dX8_tellsIn_98 : decode cX8_tellsIn 98 = .ok (.iload_n 2, 1) := dk_28 (by decide +kernel)
theorem dX8_tellsIn_99 : decode cX8_tellsIn 99 = .ok (.invokevirtual 238, 3) := dk_182 (by decide +kernel)
theorem dX8_tellsIn_102 : decode cX8_tellsIn 102 = .ok (.ireturn, 1) := dk_172 (by decide +kernel)
theorem dX8_tellsIn_68 : decode cX8_tellsIn 68 = .ok (.aload_n 0, 1) := dk_42 (by decide +kernel)
theorem dX8_tellsIn_69 : decode cX8_tellsIn 69 = .ok (.bipush 71, 2) := dk_16 (by decide +kernel)
theorem dX8_tellsIn_71 : decode cX8_tellsIn 71 = .ok (.invokevirtual 217, 3) := dk_182 (by decide +kernel)
theorem dX8_tellsIn_74 : decode cX8_tellsIn 74 = .ok (.aload_n 0, 1) := dk_42 (by decide +kernel)
theorem dX8_tellsIn_75 : decode cX8_tellsIn 75 = .ok (.aload_n 0, 1) := dk_42 (by decide +kernel)
theorem dX8_tellsIn_76 : decode cX8_tellsIn 76 = .ok (.getfield 232, 3) := dk_180 (by decide +kernel)
theorem dX8_tellsIn_79 : decode cX8_tellsIn 79 = .ok (.iload_n 2, 1) := dk_28 (by decide +kernel)
theorem dX8_tellsIn_80 : decode cX8_tellsIn 80 = .ok (.invokevirtual 235, 3) := dk_182 (by decide +kernel)
theorem dX8_tellsIn_83 : decode cX8_tellsIn 83 = .ok (.istore_n 3, 1) := dk_62 (by decide +kernel)
theorem dX8_tellsIn_84 : decode cX8_tellsIn 84 = .ok (.iload_n 3, 1) := dk_29 (by decide +kernel)
theorem dX8_tellsIn_85 : decode cX8_tellsIn 85 = .ok (.aload_n 0, 1) := dk_42 (by decide +kernel)
theorem dX8_tellsIn_86 : decode cX8_tellsIn 86 = .ok (.iconst 3, 1) := dk_6 (by decide +kernel)
theorem dX8_tellsIn_87 : decode cX8_tellsIn 87 = .ok (.iload_n 2, 1) := dk_28 (by decide +kernel)
theorem dX8_tellsIn_88 : decode cX8_tellsIn 88 = .ok (.invokevirtual 238, 3) := dk_182 (by decide +kernel)
theorem dX8_tellsIn_91 : decode cX8_tellsIn 91 = .ok (.isub, 1) := dk_100 (by decide +kernel)
theorem dX8_tellsIn_92 : decode cX8_tellsIn 92 = .ok (.ireturn, 1) := dk_172 (by decide +kernel)
theorem dX8_tellsIn_37 : decode cX8_tellsIn 37 = .ok (.aload_n 0, 1) := dk_42 (by decide +kernel)
theorem dX8_tellsIn_38 : decode cX8_tellsIn 38 = .ok (.bipush 50, 2) := dk_16 (by decide +kernel)
theorem dX8_tellsIn_40 : decode cX8_tellsIn 40 = .ok (.invokevirtual 217, 3) := dk_182 (by decide +kernel)
theorem dX8_tellsIn_43 : decode cX8_tellsIn 43 = .ok (.aload_n 0, 1) := dk_42 (by decide +kernel)
theorem dX8_tellsIn_44 : decode cX8_tellsIn 44 = .ok (.iconst 1, 1) := dk_4 (by decide +kernel)
theorem dX8_tellsIn_45 : decode cX8_tellsIn 45 = .ok (.iload_n 2, 1) := dk_28 (by decide +kernel)
theorem dX8_tellsIn_46 : decode cX8_tellsIn 46 = .ok (.invokevirtual 238, 3) := dk_182 (by decide +kernel)
theorem dX8_tellsIn_49 : decode cX8_tellsIn 49 = .ok (.istore_n 3, 1) := dk_62 (by decide +kernel)
theorem dX8_tellsIn_50 : decode cX8_tellsIn 50 = .ok (.iload_n 3, 1) := dk_29 (by decide +kernel)
theorem dX8_tellsIn_51 : decode cX8_tellsIn 51 = .ok (.aload_n 0, 1) := dk_42 (by decide +kernel)
theorem dX8_tellsIn_52 : decode cX8_tellsIn 52 = .ok (.aload_n 0, 1) := dk_42 (by decide +kernel)
theorem dX8_tellsIn_53 : decode cX8_tellsIn 53 = .ok (.getfield 232, 3) := dk_180 (by decide +kernel)
theorem dX8_tellsIn_56 : decode cX8_tellsIn 56 = .ok (.iconst 2, 1) := dk_5 (by decide +kernel)
theorem dX8_tellsIn_57 : decode cX8_tellsIn 57 = .ok (.invokevirtual 223, 3) := dk_182 (by decide +kernel)
theorem dX8_tellsIn_60 : decode cX8_tellsIn 60 = .ok (.isub, 1) := dk_100 (by decide +kernel)
theorem dX8_tellsIn_61 : decode cX8_tellsIn 61 = .ok (.ireturn, 1) := dk_172 (by decide +kernel)
theorem dX8_tellsIn_4 : decode cX8_tellsIn 4 = .ok (.aload_n 0, 1) := dk_42 (by decide +kernel)
theorem dX8_tellsIn_5 : decode cX8_tellsIn 5 = .ok (.bipush 13, 2) := dk_16 (by decide +kernel)
theorem dX8_tellsIn_7 : decode cX8_tellsIn 7 = .ok (.invokevirtual 217, 3) := dk_182 (by decide +kernel)
theorem dX8_tellsIn_10 : decode cX8_tellsIn 10 = .ok (.aload_n 0, 1) := dk_42 (by decide +kernel)
theorem dX8_tellsIn_11 : decode cX8_tellsIn 11 = .ok (.aload_n 0, 1) := dk_42 (by decide +kernel)
theorem dX8_tellsIn_12 : decode cX8_tellsIn 12 = .ok (.getfield 232, 3) := dk_180 (by decide +kernel)
theorem dX8_tellsIn_15 : decode cX8_tellsIn 15 = .ok (.iload_n 2, 1) := dk_28 (by decide +kernel)
theorem dX8_tellsIn_16 : decode cX8_tellsIn 16 = .ok (.invokevirtual 235, 3) := dk_182 (by decide +kernel)
theorem dX8_tellsIn_19 : decode cX8_tellsIn 19 = .ok (.istore_n 3, 1) := dk_62 (by decide +kernel)
theorem dX8_tellsIn_20 : decode cX8_tellsIn 20 = .ok (.iload_n 3, 1) := dk_29 (by decide +kernel)
theorem dX8_tellsIn_21 : decode cX8_tellsIn 21 = .ok (.aload_n 0, 1) := dk_42 (by decide +kernel)
theorem dX8_tellsIn_22 : decode cX8_tellsIn 22 = .ok (.aload_n 0, 1) := dk_42 (by decide +kernel)
theorem dX8_tellsIn_23 : decode cX8_tellsIn 23 = .ok (.getfield 232, 3) := dk_180 (by decide +kernel)
theorem dX8_tellsIn_26 : decode cX8_tellsIn 26 = .ok (.iload_n 2, 1) := dk_28 (by decide +kernel)
theorem dX8_tellsIn_27 : decode cX8_tellsIn 27 = .ok (.invokevirtual 229, 3) := dk_182 (by decide +kernel)
theorem dX8_tellsIn_30 : decode cX8_tellsIn 30 = .ok (.ixor, 1) := dk_130 (by decide +kernel)
theorem dX8_tellsIn_31 : decode cX8_tellsIn 31 = .ok (.ireturn, 1) := dk_172 (by decide +kernel)
set_option maxRecDepth 100000 in
set_option maxHeartbeats 8000000 in
theorem xg_X8_tellsIn (l : Launch) (D : va_G) (y : wY) (ad : Nat → Nat) : ∀ n : Nat, (∀ (i1 : Int32) (i2 : Int32) (M : Mem) (K : Int32 → Mem → Prop), wp_X8_tellsIn n i1 i2 M K → MI l D y ad yX8_tellsIn (Cond.code yX8_tellsIn cX8_tellsIn 4 (some .int)) (n + 19) M [.ref (ad 79), .int i1, .int i2] K) := by
  intro n0
  induction n0 with
  | zero => (intros; rename_i h; exact False.elim h)
  | succ n0 ih =>
    intro i1 i2 M K h
    refine MI_of (by decide) (Nat.le_of_ble_eq_true rfl) ?_
    intro p e s m args below meth c X hr hlocks
    replace h : wpb_X8_tellsIn (wp_X8_tellsIn n0) i1 i2 M K := h
    delta wpb_X8_tellsIn at h
    refine j_lv (lv1 := [(0, .ref (ad 79)), (1, .int i1), (2, .int i2)]) [0, 1, 2] rfl ?_
    refine j_iload_n X 1 rfl rfl dX8_tellsIn_0 ?_
    refine j_if_ne X 32 (by decide) dX8_tellsIn_1 (fun q_1 => ?_) (fun q_1 => ?_)
    · replace h := h.1 q_1
      refine j_iload_n X 1 rfl rfl dX8_tellsIn_32 ?_
      refine j_iconst X (v := 4) (by decide) dX8_tellsIn_33 ?_
      refine j_icmp_ne X 62 (by decide) dX8_tellsIn_34 (fun q_2 => ?_) (fun q_2 => ?_)
      · replace h := h.1 q_2
        refine j_iload_n X 1 rfl rfl dX8_tellsIn_62 ?_
        refine j_bipush X (v := 6) (by decide) dX8_tellsIn_63 ?_
        refine j_icmp_ne X 93 (by decide) dX8_tellsIn_65 (fun q_3 => ?_) (fun q_3 => ?_)
        · replace h := h.1 q_3
          refine j_aload_n X 0 rfl rfl dX8_tellsIn_93 ?_
          refine j_iload_n X 1 rfl rfl dX8_tellsIn_94 ?_
          refine j_callSI X (nn := 1) (As := [.int i1]) (st := [.ref (ad 79)]) aw_299 (x_X8_above l D y ad i1 _ _ h) aw_298 aw_300 aw_5 (by decide +kernel) ⟨(by show _ + 1 ≤ _ + 1 + _; omega), (by show 8 + (_ + 11) + 60 * _ ≤ 60 * _; omega)⟩ rfl (Nat.le_of_ble_eq_true rfl) ⟨Nat.le_of_ble_eq_true rfl, Nat.le_of_ble_eq_true rfl⟩ dX8_tellsIn_95 ?_
          intro r4 M4 h
          refine j_iload_n X 2 rfl rfl dX8_tellsIn_98 ?_
          refine j_callVI X (nn := 2) (As := [.int r4, .int i2]) (st := []) (ci := 8) cl_79.1 (wE_8 _ cl_79.2) rfl aw_797 aw_798 (ih r4 i2 _ _ h) aw_796 aw_799 aw_5 (by decide +kernel) ⟨(by show _ + 1 ≤ _ + 1 + _; omega), (by show 8 + (_ + 11) + 60 * _ ≤ 60 * _; omega)⟩ rfl (Nat.le_of_ble_eq_true rfl) ⟨Nat.le_of_ble_eq_true rfl, Nat.le_of_ble_eq_true rfl⟩ dX8_tellsIn_99 ?_
          intro r5 M5 h
          exact j_iret X hr hlocks dX8_tellsIn_102 h
        · replace h := h.2 q_3
          refine j_aload_n X 0 rfl rfl dX8_tellsIn_68 ?_
          refine j_bipush X (v := 71) (by decide) dX8_tellsIn_69 ?_
          refine j_callVV X (nn := 1) (As := [.int 71]) (st := []) (ci := 8) cl_79.1 (wE_8 _ cl_79.2) rfl aw_785 aw_786 (x_X8_ran l D y ad 71 _ _ h) aw_784 aw_787 aw_5 (by decide +kernel) ⟨(by show _ + 1 ≤ _ + 1 + _; omega), (by show 8 + (_ + 11) + 60 * _ ≤ 60 * _; omega)⟩ rfl (Nat.le_of_ble_eq_true rfl) ⟨Nat.le_of_ble_eq_true rfl, Nat.le_of_ble_eq_true rfl⟩ dX8_tellsIn_71 ?_
          intro M6 h
          refine j_aload_n X 0 rfl rfl dX8_tellsIn_74 ?_
          refine j_aload_n X 0 rfl rfl dX8_tellsIn_75 ?_
          refine j_get X cl_79.1 (wE_8 _ cl_79.2) rfl awF8 21 (by decide) aw_777 rfl (v := .int (M6 79 21)) rfl dX8_tellsIn_76 ?_
          refine j_iload_n X 2 rfl rfl dX8_tellsIn_79 ?_
          refine j_callVI X (nn := 2) (As := [.int (M6 79 21), .int i2]) (st := []) (ci := 8) cl_79.1 (wE_8 _ cl_79.2) rfl aw_789 aw_790 (x_X8_cutsIn l D y ad 8 (M6 79 21) i2 _ _ h) aw_788 aw_791 aw_5 (by decide +kernel) ⟨(by show _ + 1 ≤ _ + 1 + _; omega), (by show 8 + (_ + 11) + 60 * _ ≤ 60 * _; omega)⟩ rfl (Nat.le_of_ble_eq_true rfl) ⟨Nat.le_of_ble_eq_true rfl, Nat.le_of_ble_eq_true rfl⟩ dX8_tellsIn_80 ?_
          intro r7 M7 h
          refine j_istore_n X [(3, .int r7), (0, .ref (ad 79)), (1, .int i1), (2, .int i2)] rfl (by decide) rfl dX8_tellsIn_83 ?_
          refine j_iload_n X 0 rfl rfl dX8_tellsIn_84 ?_
          refine j_aload_n X 1 rfl rfl dX8_tellsIn_85 ?_
          refine j_iconst X (v := 3) (by decide) dX8_tellsIn_86 ?_
          refine j_iload_n X 3 rfl rfl dX8_tellsIn_87 ?_
          refine j_callVI X (nn := 2) (As := [.int 3, .int i2]) (st := [.int r7]) (ci := 8) cl_79.1 (wE_8 _ cl_79.2) rfl aw_797 aw_798 (ih 3 i2 _ _ h) aw_796 aw_799 aw_5 (by decide +kernel) ⟨(by show _ + 1 ≤ _ + 1 + _; omega), (by show 8 + (_ + 11) + 60 * _ ≤ 60 * _; omega)⟩ rfl (Nat.le_of_ble_eq_true rfl) ⟨Nat.le_of_ble_eq_true rfl, Nat.le_of_ble_eq_true rfl⟩ dX8_tellsIn_88 ?_
          intro r8 M8 h
          refine j_isub X dX8_tellsIn_91 ?_
          exact j_iret X hr hlocks dX8_tellsIn_92 h
      · replace h := h.2 q_2
        refine j_aload_n X 0 rfl rfl dX8_tellsIn_37 ?_
        refine j_bipush X (v := 50) (by decide) dX8_tellsIn_38 ?_
        refine j_callVV X (nn := 1) (As := [.int 50]) (st := []) (ci := 8) cl_79.1 (wE_8 _ cl_79.2) rfl aw_785 aw_786 (x_X8_ran l D y ad 50 _ _ h) aw_784 aw_787 aw_5 (by decide +kernel) ⟨(by show _ + 1 ≤ _ + 1 + _; omega), (by show 8 + (_ + 11) + 60 * _ ≤ 60 * _; omega)⟩ rfl (Nat.le_of_ble_eq_true rfl) ⟨Nat.le_of_ble_eq_true rfl, Nat.le_of_ble_eq_true rfl⟩ dX8_tellsIn_40 ?_
        intro M9 h
        refine j_aload_n X 0 rfl rfl dX8_tellsIn_43 ?_
        refine j_iconst X (v := 1) (by decide) dX8_tellsIn_44 ?_
        refine j_iload_n X 2 rfl rfl dX8_tellsIn_45 ?_
        refine j_callVI X (nn := 2) (As := [.int 1, .int i2]) (st := []) (ci := 8) cl_79.1 (wE_8 _ cl_79.2) rfl aw_797 aw_798 (ih 1 i2 _ _ h) aw_796 aw_799 aw_5 (by decide +kernel) ⟨(by show _ + 1 ≤ _ + 1 + _; omega), (by show 8 + (_ + 11) + 60 * _ ≤ 60 * _; omega)⟩ rfl (Nat.le_of_ble_eq_true rfl) ⟨Nat.le_of_ble_eq_true rfl, Nat.le_of_ble_eq_true rfl⟩ dX8_tellsIn_46 ?_
        intro r10 M10 h
        refine j_istore_n X [(3, .int r10), (0, .ref (ad 79)), (1, .int i1), (2, .int i2)] rfl (by decide) rfl dX8_tellsIn_49 ?_
        refine j_iload_n X 0 rfl rfl dX8_tellsIn_50 ?_
        refine j_aload_n X 1 rfl rfl dX8_tellsIn_51 ?_
        refine j_aload_n X 1 rfl rfl dX8_tellsIn_52 ?_
        refine j_get X cl_79.1 (wE_8 _ cl_79.2) rfl awF8 21 (by decide) aw_777 rfl (v := .int (M10 79 21)) rfl dX8_tellsIn_53 ?_
        refine j_iconst X (v := 2) (by decide) dX8_tellsIn_56 ?_
        refine j_callVI X (nn := 2) (As := [.int (M10 79 21), .int 2]) (st := [.int r10]) (ci := 8) cl_79.1 (wE_8 _ cl_79.2) rfl aw_781 aw_782 (x_X8_grindsIn l D y ad 8 (M10 79 21) 2 _ _ h) aw_780 aw_783 aw_5 (by decide +kernel) ⟨(by show _ + 1 ≤ _ + 1 + _; omega), (by show 8 + (_ + 11) + 60 * _ ≤ 60 * _; omega)⟩ rfl (Nat.le_of_ble_eq_true rfl) ⟨Nat.le_of_ble_eq_true rfl, Nat.le_of_ble_eq_true rfl⟩ dX8_tellsIn_57 ?_
        intro r11 M11 h
        refine j_isub X dX8_tellsIn_60 ?_
        exact j_iret X hr hlocks dX8_tellsIn_61 h
    · replace h := h.2 q_1
      refine j_aload_n X 0 rfl rfl dX8_tellsIn_4 ?_
      refine j_bipush X (v := 13) (by decide) dX8_tellsIn_5 ?_
      refine j_callVV X (nn := 1) (As := [.int 13]) (st := []) (ci := 8) cl_79.1 (wE_8 _ cl_79.2) rfl aw_785 aw_786 (x_X8_ran l D y ad 13 _ _ h) aw_784 aw_787 aw_5 (by decide +kernel) ⟨(by show _ + 1 ≤ _ + 1 + _; omega), (by show 8 + (_ + 11) + 60 * _ ≤ 60 * _; omega)⟩ rfl (Nat.le_of_ble_eq_true rfl) ⟨Nat.le_of_ble_eq_true rfl, Nat.le_of_ble_eq_true rfl⟩ dX8_tellsIn_7 ?_
      intro M12 h
      refine j_aload_n X 0 rfl rfl dX8_tellsIn_10 ?_
      refine j_aload_n X 0 rfl rfl dX8_tellsIn_11 ?_
      refine j_get X cl_79.1 (wE_8 _ cl_79.2) rfl awF8 21 (by decide) aw_777 rfl (v := .int (M12 79 21)) rfl dX8_tellsIn_12 ?_
      refine j_iload_n X 2 rfl rfl dX8_tellsIn_15 ?_
      refine j_callVI X (nn := 2) (As := [.int (M12 79 21), .int i2]) (st := []) (ci := 8) cl_79.1 (wE_8 _ cl_79.2) rfl aw_789 aw_790 (x_X8_cutsIn l D y ad 8 (M12 79 21) i2 _ _ h) aw_788 aw_791 aw_5 (by decide +kernel) ⟨(by show _ + 1 ≤ _ + 1 + _; omega), (by show 8 + (_ + 11) + 60 * _ ≤ 60 * _; omega)⟩ rfl (Nat.le_of_ble_eq_true rfl) ⟨Nat.le_of_ble_eq_true rfl, Nat.le_of_ble_eq_true rfl⟩ dX8_tellsIn_16 ?_
      intro r13 M13 h
      refine j_istore_n X [(3, .int r13), (0, .ref (ad 79)), (1, .int i1), (2, .int i2)] rfl (by decide) rfl dX8_tellsIn_19 ?_
      refine j_iload_n X 0 rfl rfl dX8_tellsIn_20 ?_
      refine j_aload_n X 1 rfl rfl dX8_tellsIn_21 ?_
      refine j_aload_n X 1 rfl rfl dX8_tellsIn_22 ?_
      refine j_get X cl_79.1 (wE_8 _ cl_79.2) rfl awF8 21 (by decide) aw_777 rfl (v := .int (M13 79 21)) rfl dX8_tellsIn_23 ?_
      refine j_iload_n X 3 rfl rfl dX8_tellsIn_26 ?_
      refine j_callVI X (nn := 2) (As := [.int (M13 79 21), .int i2]) (st := [.int r13]) (ci := 8) cl_79.1 (wE_8 _ cl_79.2) rfl aw_793 aw_794 (x_X8_sparksIn l D y ad 8 (M13 79 21) i2 _ _ h) aw_792 aw_795 aw_5 (by decide +kernel) ⟨(by show _ + 1 ≤ _ + 1 + _; omega), (by show 8 + (_ + 11) + 60 * _ ≤ 60 * _; omega)⟩ rfl (Nat.le_of_ble_eq_true rfl) ⟨Nat.le_of_ble_eq_true rfl, Nat.le_of_ble_eq_true rfl⟩ dX8_tellsIn_27 ?_
      intro r14 M14 h
      refine j_ixor X dX8_tellsIn_30 ?_
      exact j_iret X hr hlocks dX8_tellsIn_31 h
theorem x_X8_tellsIn (l : Launch) (D : va_G) (y : wY) (ad : Nat → Nat) (n : Nat) (i1 : Int32) (i2 : Int32) (M : Mem) (K : Int32 → Mem → Prop) (h : wp_X8_tellsIn n i1 i2 M K) : MI l D y ad yX8_tellsIn (Cond.code yX8_tellsIn cX8_tellsIn 4 (some .int)) (n + 19) M [.ref (ad 79), .int i1, .int i2] K := (xg_X8_tellsIn l D y ad n) i1 i2 M K h
theorem dX8_voice_0 : decode cX8_voice 0 = .ok (.aload_n 0, 1) := dk_42 (by decide +kernel)
theorem dX8_voice_1 : decode cX8_voice 1 = .ok (.iload_n 1, 1) := dk_27 (by decide +kernel)
theorem dX8_voice_2 : decode cX8_voice 2 = .ok (.invokevirtual 73, 3) := dk_182 (by decide +kernel)
theorem dX8_voice_5 : decode cX8_voice 5 = .ok (.ifCond .eq 12, 3) := dk_153 (by decide +kernel)
theorem dX8_voice_17 : decode cX8_voice 17 = .ok (.aload_n 0, 1) := dk_42 (by decide +kernel)
theorem dX8_voice_18 : decode cX8_voice 18 = .ok (.ldc 60, 2) := dk_18 (by decide +kernel)
theorem dX8_voice_20 : decode cX8_voice 20 = .ok (.invokevirtual 61, 3) := dk_182 (by decide +kernel)
theorem dX8_voice_23 : decode cX8_voice 23 = .ok (.ireturn, 1) := dk_172 (by decide +kernel)
theorem dX8_voice_8 : decode cX8_voice 8 = .ok (.iload_n 2, 1) := dk_28 (by decide +kernel)
theorem dX8_voice_9 : decode cX8_voice 9 = .ok (.iconst 0, 1) := dk_3 (by decide +kernel)
theorem dX8_voice_10 : decode cX8_voice 10 = .ok (.iconst 3, 1) := dk_6 (by decide +kernel)
theorem dX8_voice_11 : decode cX8_voice 11 = .ok (.invokestatic 47, 3) := dk_184 (by decide +kernel)
theorem dX8_voice_14 : decode cX8_voice 14 = .ok (.ifCond .ne 10, 3) := dk_154 (by decide +kernel)
theorem dX8_voice_24 : decode cX8_voice 24 = .ok (.aload_n 0, 1) := dk_42 (by decide +kernel)
theorem dX8_voice_25 : decode cX8_voice 25 = .ok (.iconst 0, 1) := dk_3 (by decide +kernel)
theorem dX8_voice_26 : decode cX8_voice 26 = .ok (.putfield 214, 3) := dk_181 (by decide +kernel)
theorem dX8_voice_29 : decode cX8_voice 29 = .ok (.aload_n 0, 1) := dk_42 (by decide +kernel)
theorem dX8_voice_30 : decode cX8_voice 30 = .ok (.aload_n 0, 1) := dk_42 (by decide +kernel)
theorem dX8_voice_31 : decode cX8_voice 31 = .ok (.iload_n 1, 1) := dk_27 (by decide +kernel)
theorem dX8_voice_32 : decode cX8_voice 32 = .ok (.iconst 0, 1) := dk_3 (by decide +kernel)
theorem dX8_voice_33 : decode cX8_voice 33 = .ok (.invokevirtual 65, 3) := dk_182 (by decide +kernel)
theorem dX8_voice_36 : decode cX8_voice 36 = .ok (.putfield 232, 3) := dk_181 (by decide +kernel)
theorem dX8_voice_39 : decode cX8_voice 39 = .ok (.aload_n 0, 1) := dk_42 (by decide +kernel)
theorem dX8_voice_40 : decode cX8_voice 40 = .ok (.iload_n 1, 1) := dk_27 (by decide +kernel)
theorem dX8_voice_41 : decode cX8_voice 41 = .ok (.putfield 220, 3) := dk_181 (by decide +kernel)
theorem dX8_voice_44 : decode cX8_voice 44 = .ok (.aload_n 0, 1) := dk_42 (by decide +kernel)
theorem dX8_voice_45 : decode cX8_voice 45 = .ok (.aload_n 0, 1) := dk_42 (by decide +kernel)
theorem dX8_voice_46 : decode cX8_voice 46 = .ok (.iload_n 1, 1) := dk_27 (by decide +kernel)
theorem dX8_voice_47 : decode cX8_voice 47 = .ok (.iconst 1, 1) := dk_4 (by decide +kernel)
theorem dX8_voice_48 : decode cX8_voice 48 = .ok (.invokevirtual 65, 3) := dk_182 (by decide +kernel)
theorem dX8_voice_51 : decode cX8_voice 51 = .ok (.putfield 226, 3) := dk_181 (by decide +kernel)
theorem dX8_voice_54 : decode cX8_voice 54 = .ok (.iload_n 2, 1) := dk_28 (by decide +kernel)
theorem dX8_voice_55 : decode cX8_voice 55 = .ok (.tableswitch 55 0 2 #[25, 35, 45], 25) := by decide +kernel
theorem dX8_voice_80 : decode cX8_voice 80 = .ok (.aload_n 0, 1) := dk_42 (by decide +kernel)
theorem dX8_voice_81 : decode cX8_voice 81 = .ok (.aload_n 0, 1) := dk_42 (by decide +kernel)
theorem dX8_voice_82 : decode cX8_voice 82 = .ok (.getfield 232, 3) := dk_180 (by decide +kernel)
theorem dX8_voice_85 : decode cX8_voice 85 = .ok (.iload_n 3, 1) := dk_29 (by decide +kernel)
theorem dX8_voice_86 : decode cX8_voice 86 = .ok (.invokevirtual 223, 3) := dk_182 (by decide +kernel)
theorem dX8_voice_89 : decode cX8_voice 89 = .ok (.ireturn, 1) := dk_172 (by decide +kernel)
theorem dX8_voice_90 : decode cX8_voice 90 = .ok (.aload_n 0, 1) := dk_42 (by decide +kernel)
theorem dX8_voice_91 : decode cX8_voice 91 = .ok (.aload_n 0, 1) := dk_42 (by decide +kernel)
theorem dX8_voice_92 : decode cX8_voice 92 = .ok (.getfield 232, 3) := dk_180 (by decide +kernel)
theorem dX8_voice_95 : decode cX8_voice 95 = .ok (.iload_n 3, 1) := dk_29 (by decide +kernel)
theorem dX8_voice_96 : decode cX8_voice 96 = .ok (.invokevirtual 235, 3) := dk_182 (by decide +kernel)
theorem dX8_voice_99 : decode cX8_voice 99 = .ok (.ireturn, 1) := dk_172 (by decide +kernel)
theorem dX8_voice_100 : decode cX8_voice 100 = .ok (.aload_n 0, 1) := dk_42 (by decide +kernel)
theorem dX8_voice_101 : decode cX8_voice 101 = .ok (.aload_n 0, 1) := dk_42 (by decide +kernel)
theorem dX8_voice_102 : decode cX8_voice 102 = .ok (.getfield 232, 3) := dk_180 (by decide +kernel)
theorem dX8_voice_105 : decode cX8_voice 105 = .ok (.iload_n 3, 1) := dk_29 (by decide +kernel)
theorem dX8_voice_106 : decode cX8_voice 106 = .ok (.invokevirtual 229, 3) := dk_182 (by decide +kernel)
theorem dX8_voice_109 : decode cX8_voice 109 = .ok (.ireturn, 1) := dk_172 (by decide +kernel)
theorem dX8_voice_110 : decode cX8_voice 110 = .ok (.aload_n 0, 1) := dk_42 (by decide +kernel)
theorem dX8_voice_111 : decode cX8_voice 111 = .ok (.aload_n 0, 1) := dk_42 (by decide +kernel)
theorem dX8_voice_112 : decode cX8_voice 112 = .ok (.getfield 232, 3) := dk_180 (by decide +kernel)
theorem dX8_voice_115 : decode cX8_voice 115 = .ok (.iload_n 3, 1) := dk_29 (by decide +kernel)
theorem dX8_voice_116 : decode cX8_voice 116 = .ok (.invokevirtual 238, 3) := dk_182 (by decide +kernel)
theorem dX8_voice_119 : decode cX8_voice 119 = .ok (.ireturn, 1) := dk_172 (by decide +kernel)
set_option maxRecDepth 100000 in
set_option maxHeartbeats 8000000 in
theorem x_X8_voice (l : Launch) (D : va_G) (y : wY) (ad : Nat → Nat) (i1 : Int32) (i2 : Int32) (i3 : Int32) (M : Mem) (K : Int32 → Mem → Prop) (h : wp_X8_voice i1 i2 i3 M K) : MI l D y ad yX8_voice (Cond.code yX8_voice cX8_voice 4 (some .int)) 28 M [.ref (ad 79), .int i1, .int i2, .int i3] K := by
  refine MI_of (by decide) (Nat.le_of_ble_eq_true rfl) ?_
  intro p e s m args below meth c X hr hlocks
  delta wp_X8_voice at h
  refine j_lv (lv1 := [(0, .ref (ad 79)), (1, .int i1), (2, .int i2), (3, .int i3)]) [0, 1, 2, 3] rfl ?_
  refine j_aload_n X 0 rfl rfl dX8_voice_0 ?_
  refine j_iload_n X 1 rfl rfl dX8_voice_1 ?_
  refine j_callVI X (nn := 1) (As := [.int i1]) (st := []) (ci := 8) cl_79.1 (wE_8 _ cl_79.2) rfl aw_231 aw_232 (x_X8_isQuarrel l D y ad i1 _ _ h) aw_230 aw_233 aw_5 (by decide +kernel) ⟨Nat.le_of_ble_eq_true rfl, Nat.le_of_ble_eq_true rfl⟩ rfl (Nat.le_of_ble_eq_true rfl) ⟨Nat.le_of_ble_eq_true rfl, Nat.le_of_ble_eq_true rfl⟩ dX8_voice_2 ?_
  intro r1 M1 h
  refine j_if_eq X 17 (by decide) dX8_voice_5 (fun q_2 => ?_) (fun q_2 => ?_)
  · replace h := h.1 q_2
    refine j_aload_n X 0 rfl rfl dX8_voice_17 ?_
    refine j_ldc X (v := (-1000000001)) aw_132 dX8_voice_18 ?_
    refine j_callVI X (nn := 1) (As := [.int (-1000000001)]) (st := []) (ci := 8) cl_79.1 (wE_8 _ cl_79.2) rfl aw_144 aw_145 (x_X8_errs l D y ad (-1000000001) _ _ h) aw_143 aw_146 aw_5 (by decide +kernel) ⟨Nat.le_of_ble_eq_true rfl, Nat.le_of_ble_eq_true rfl⟩ rfl (Nat.le_of_ble_eq_true rfl) ⟨Nat.le_of_ble_eq_true rfl, Nat.le_of_ble_eq_true rfl⟩ dX8_voice_20 ?_
    intro r3 M3 h
    exact j_iret X hr hlocks dX8_voice_23 h
  · replace h := h.2 q_2
    refine j_iload_n X 2 rfl rfl dX8_voice_8 ?_
    refine j_iconst X (v := 0) (by decide) dX8_voice_9 ?_
    refine j_iconst X (v := 3) (by decide) dX8_voice_10 ?_
    refine j_callSI X (nn := 3) (As := [.int i2, .int 0, .int 3]) (st := []) aw_134 (x_X8_in l D y ad i2 0 3 _ _ h) aw_133 aw_135 aw_5 (by decide +kernel) ⟨Nat.le_of_ble_eq_true rfl, Nat.le_of_ble_eq_true rfl⟩ rfl (Nat.le_of_ble_eq_true rfl) ⟨Nat.le_of_ble_eq_true rfl, Nat.le_of_ble_eq_true rfl⟩ dX8_voice_11 ?_
    intro r4 M4 h
    refine j_if_ne X 24 (by decide) dX8_voice_14 (fun q_5 => ?_) (fun q_5 => ?_)
    · replace h := h.1 q_5
      refine j_aload_n X 0 rfl rfl dX8_voice_24 ?_
      refine j_iconst X (v := 0) (by decide) dX8_voice_25 ?_
      refine j_put X (up M4 79 20 0) up_o cl_79.1 (wE_8 _ cl_79.2) rfl awF8 20 (by decide) (wP_8_20 _ _ cl_79.2) tyX8 tyX8_ok nmX8 rfl (ty := .int) (by decide +kernel) rfl rfl (Nat.le_of_ble_eq_true rfl) aw_776 rfl dX8_voice_26 ?_
      refine j_aload_n X 0 rfl rfl dX8_voice_29 ?_
      refine j_aload_n X 0 rfl rfl dX8_voice_30 ?_
      refine j_iload_n X 1 rfl rfl dX8_voice_31 ?_
      refine j_iconst X (v := 0) (by decide) dX8_voice_32 ?_
      refine j_callVI X (nn := 2) (As := [.int i1, .int 0]) (st := [.ref (ad 79)]) (ci := 8) cl_79.1 (wE_8 _ cl_79.2) rfl aw_161 aw_162 (x_X8_its l D y ad i1 0 _ _ h) aw_160 aw_163 aw_5 (by decide +kernel) ⟨Nat.le_of_ble_eq_true rfl, Nat.le_of_ble_eq_true rfl⟩ rfl (Nat.le_of_ble_eq_true rfl) ⟨Nat.le_of_ble_eq_true rfl, Nat.le_of_ble_eq_true rfl⟩ dX8_voice_33 ?_
      intro r6 M6 h
      refine j_put X (up M6 79 21 r6) up_o cl_79.1 (wE_8 _ cl_79.2) rfl awF8 21 (by decide) (wP_8_21 _ _ cl_79.2) tyX8 tyX8_ok nmX8 rfl (ty := .int) (by decide +kernel) rfl rfl (Nat.le_of_ble_eq_true rfl) aw_777 rfl dX8_voice_36 ?_
      refine j_aload_n X 0 rfl rfl dX8_voice_39 ?_
      refine j_iload_n X 1 rfl rfl dX8_voice_40 ?_
      refine j_put X (up (up M6 79 21 r6) 79 22 i1) up_o cl_79.1 (wE_8 _ cl_79.2) rfl awF8 22 (by decide) (wP_8_22 _ _ cl_79.2) tyX8 tyX8_ok nmX8 rfl (ty := .int) (by decide +kernel) rfl rfl (Nat.le_of_ble_eq_true rfl) aw_778 rfl dX8_voice_41 ?_
      refine j_aload_n X 0 rfl rfl dX8_voice_44 ?_
      refine j_aload_n X 0 rfl rfl dX8_voice_45 ?_
      refine j_iload_n X 1 rfl rfl dX8_voice_46 ?_
      refine j_iconst X (v := 1) (by decide) dX8_voice_47 ?_
      refine j_callVI X (nn := 2) (As := [.int i1, .int 1]) (st := [.ref (ad 79)]) (ci := 8) cl_79.1 (wE_8 _ cl_79.2) rfl aw_161 aw_162 (x_X8_its l D y ad i1 1 _ _ h) aw_160 aw_163 aw_5 (by decide +kernel) ⟨Nat.le_of_ble_eq_true rfl, Nat.le_of_ble_eq_true rfl⟩ rfl (Nat.le_of_ble_eq_true rfl) ⟨Nat.le_of_ble_eq_true rfl, Nat.le_of_ble_eq_true rfl⟩ dX8_voice_48 ?_
      intro r7 M7 h
      refine j_put X (up M7 79 23 r7) up_o cl_79.1 (wE_8 _ cl_79.2) rfl awF8 23 (by decide) (wP_8_23 _ _ cl_79.2) tyX8 tyX8_ok nmX8 rfl (ty := .int) (by decide +kernel) rfl rfl (Nat.le_of_ble_eq_true rfl) aw_779 rfl dX8_voice_51 ?_
      refine j_iload_n X 2 rfl rfl dX8_voice_54 ?_
      by_cases w_8 : i2 = 0
      · replace h := h.1 w_8
        refine j_tsw_in X 80 0 w_8 (by decide) (by decide) (off := 25) rfl (by decide) dX8_voice_55 ?_
        refine j_aload_n X 0 rfl rfl dX8_voice_80 ?_
        refine j_aload_n X 0 rfl rfl dX8_voice_81 ?_
        refine j_get X cl_79.1 (wE_8 _ cl_79.2) rfl awF8 21 (by decide) aw_777 rfl (v := .int ((up M7 79 23 r7) 79 21)) rfl dX8_voice_82 ?_
        refine j_iload_n X 3 rfl rfl dX8_voice_85 ?_
        refine j_callVI X (nn := 2) (As := [.int ((up M7 79 23 r7) 79 21), .int i3]) (st := []) (ci := 8) cl_79.1 (wE_8 _ cl_79.2) rfl aw_781 aw_782 (x_X8_grindsIn l D y ad 8 ((up M7 79 23 r7) 79 21) i3 _ _ h) aw_780 aw_783 aw_5 (by decide +kernel) ⟨Nat.le_of_ble_eq_true rfl, Nat.le_of_ble_eq_true rfl⟩ rfl (Nat.le_of_ble_eq_true rfl) ⟨Nat.le_of_ble_eq_true rfl, Nat.le_of_ble_eq_true rfl⟩ dX8_voice_86 ?_
        intro r9 M9 h
        exact j_iret X hr hlocks dX8_voice_89 h
      replace h := h.2 w_8
      by_cases w_10 : i2 = 1
      · replace h := h.1 w_10
        refine j_tsw_in X 90 1 w_10 (by decide) (by decide) (off := 35) rfl (by decide) dX8_voice_55 ?_
        refine j_aload_n X 0 rfl rfl dX8_voice_90 ?_
        refine j_aload_n X 0 rfl rfl dX8_voice_91 ?_
        refine j_get X cl_79.1 (wE_8 _ cl_79.2) rfl awF8 21 (by decide) aw_777 rfl (v := .int ((up M7 79 23 r7) 79 21)) rfl dX8_voice_92 ?_
        refine j_iload_n X 3 rfl rfl dX8_voice_95 ?_
        refine j_callVI X (nn := 2) (As := [.int ((up M7 79 23 r7) 79 21), .int i3]) (st := []) (ci := 8) cl_79.1 (wE_8 _ cl_79.2) rfl aw_789 aw_790 (x_X8_cutsIn l D y ad 8 ((up M7 79 23 r7) 79 21) i3 _ _ h) aw_788 aw_791 aw_5 (by decide +kernel) ⟨Nat.le_of_ble_eq_true rfl, Nat.le_of_ble_eq_true rfl⟩ rfl (Nat.le_of_ble_eq_true rfl) ⟨Nat.le_of_ble_eq_true rfl, Nat.le_of_ble_eq_true rfl⟩ dX8_voice_96 ?_
        intro r11 M11 h
        exact j_iret X hr hlocks dX8_voice_99 h
      replace h := h.2 w_10
      by_cases w_12 : i2 = 2
      · replace h := h.1 w_12
        refine j_tsw_in X 100 2 w_12 (by decide) (by decide) (off := 45) rfl (by decide) dX8_voice_55 ?_
        refine j_aload_n X 0 rfl rfl dX8_voice_100 ?_
        refine j_aload_n X 0 rfl rfl dX8_voice_101 ?_
        refine j_get X cl_79.1 (wE_8 _ cl_79.2) rfl awF8 21 (by decide) aw_777 rfl (v := .int ((up M7 79 23 r7) 79 21)) rfl dX8_voice_102 ?_
        refine j_iload_n X 3 rfl rfl dX8_voice_105 ?_
        refine j_callVI X (nn := 2) (As := [.int ((up M7 79 23 r7) 79 21), .int i3]) (st := []) (ci := 8) cl_79.1 (wE_8 _ cl_79.2) rfl aw_793 aw_794 (x_X8_sparksIn l D y ad 8 ((up M7 79 23 r7) 79 21) i3 _ _ h) aw_792 aw_795 aw_5 (by decide +kernel) ⟨Nat.le_of_ble_eq_true rfl, Nat.le_of_ble_eq_true rfl⟩ rfl (Nat.le_of_ble_eq_true rfl) ⟨Nat.le_of_ble_eq_true rfl, Nat.le_of_ble_eq_true rfl⟩ dX8_voice_106 ?_
        intro r13 M13 h
        exact j_iret X hr hlocks dX8_voice_109 h
      replace h := h.2 w_12
      have qw_8 := ti_ne (n := 0) (by decide) w_8
      have qw_10 := ti_ne (n := 1) (by decide) w_10
      have qw_12 := ti_ne (n := 2) (by decide) w_12
      refine j_tsw_out X 110 (by omega) (by decide) dX8_voice_55 ?_
      refine j_aload_n X 0 rfl rfl dX8_voice_110 ?_
      refine j_aload_n X 0 rfl rfl dX8_voice_111 ?_
      refine j_get X cl_79.1 (wE_8 _ cl_79.2) rfl awF8 21 (by decide) aw_777 rfl (v := .int ((up M7 79 23 r7) 79 21)) rfl dX8_voice_112 ?_
      refine j_iload_n X 3 rfl rfl dX8_voice_115 ?_
      refine j_callVI X (nn := 2) (As := [.int ((up M7 79 23 r7) 79 21), .int i3]) (st := []) (ci := 8) cl_79.1 (wE_8 _ cl_79.2) rfl aw_797 aw_798 (x_X8_tellsIn l D y ad 8 ((up M7 79 23 r7) 79 21) i3 _ _ h) aw_796 aw_799 aw_5 (by decide +kernel) ⟨Nat.le_of_ble_eq_true rfl, Nat.le_of_ble_eq_true rfl⟩ rfl (Nat.le_of_ble_eq_true rfl) ⟨Nat.le_of_ble_eq_true rfl, Nat.le_of_ble_eq_true rfl⟩ dX8_voice_116 ?_
      intro r14 M14 h
      exact j_iret X hr hlocks dX8_voice_119 h
    · replace h := h.2 q_5
      refine j_aload_n X 0 rfl rfl dX8_voice_17 ?_
      refine j_ldc X (v := (-1000000001)) aw_132 dX8_voice_18 ?_
      refine j_callVI X (nn := 1) (As := [.int (-1000000001)]) (st := []) (ci := 8) cl_79.1 (wE_8 _ cl_79.2) rfl aw_144 aw_145 (x_X8_errs l D y ad (-1000000001) _ _ h) aw_143 aw_146 aw_5 (by decide +kernel) ⟨Nat.le_of_ble_eq_true rfl, Nat.le_of_ble_eq_true rfl⟩ rfl (Nat.le_of_ble_eq_true rfl) ⟨Nat.le_of_ble_eq_true rfl, Nat.le_of_ble_eq_true rfl⟩ dX8_voice_20 ?_
      intro r15 M15 h
      exact j_iret X hr hlocks dX8_voice_23 h
theorem dX8_trace_0 : decode cX8_trace 0 = .ok (.iload_n 1, 1) := dk_27 (by decide +kernel)
theorem dX8_trace_1 : decode cX8_trace 1 = .ok (.iconst 0, 1) := dk_3 (by decide +kernel)
theorem dX8_trace_2 : decode cX8_trace 2 = .ok (.aload_n 0, 1) := dk_42 (by decide +kernel)
theorem dX8_trace_3 : decode cX8_trace 3 = .ok (.getfield 214, 3) := dk_180 (by decide +kernel)
theorem dX8_trace_6 : decode cX8_trace 6 = .ok (.iconst 1, 1) := dk_4 (by decide +kernel)
theorem dX8_trace_7 : decode cX8_trace 7 = .ok (.isub, 1) := dk_100 (by decide +kernel)
theorem dX8_trace_8 : decode cX8_trace 8 = .ok (.invokestatic 47, 3) := dk_184 (by decide +kernel)
theorem dX8_trace_11 : decode cX8_trace 11 = .ok (.ifCond .eq 12, 3) := dk_153 (by decide +kernel)
theorem dX8_trace_23 : decode cX8_trace 23 = .ok (.aload_n 0, 1) := dk_42 (by decide +kernel)
theorem dX8_trace_24 : decode cX8_trace 24 = .ok (.ldc 194, 2) := dk_18 (by decide +kernel)
theorem dX8_trace_26 : decode cX8_trace 26 = .ok (.invokevirtual 61, 3) := dk_182 (by decide +kernel)
theorem dX8_trace_29 : decode cX8_trace 29 = .ok (.ireturn, 1) := dk_172 (by decide +kernel)
theorem dX8_trace_14 : decode cX8_trace 14 = .ok (.aload_n 0, 1) := dk_42 (by decide +kernel)
theorem dX8_trace_15 : decode cX8_trace 15 = .ok (.getfield 43, 3) := dk_180 (by decide +kernel)
theorem dX8_trace_18 : decode cX8_trace 18 = .ok (.iload_n 1, 1) := dk_27 (by decide +kernel)
theorem dX8_trace_19 : decode cX8_trace 19 = .ok (.iaload, 1) := dk_46 (by decide +kernel)
theorem dX8_trace_20 : decode cX8_trace 20 = .ok (.goto 9, 3) := dk_167 (by decide +kernel)
set_option maxRecDepth 100000 in
set_option maxHeartbeats 8000000 in
theorem x_X8_trace (l : Launch) (D : va_G) (y : wY) (ad : Nat → Nat) (i1 : Int32) (M : Mem) (K : Int32 → Mem → Prop) (h : wp_X8_trace i1 M K) : MI l D y ad yX8_trace (Cond.code yX8_trace cX8_trace 2 (some .int)) 1 M [.ref (ad 79), .int i1] K := by
  refine MI_of (by decide) (Nat.le_of_ble_eq_true rfl) ?_
  intro p e s m args below meth c X hr hlocks
  delta wp_X8_trace at h
  refine j_lv (lv1 := [(0, .ref (ad 79)), (1, .int i1)]) [0, 1] rfl ?_
  refine j_iload_n X 1 rfl rfl dX8_trace_0 ?_
  refine j_iconst X (v := 0) (by decide) dX8_trace_1 ?_
  refine j_aload_n X 0 rfl rfl dX8_trace_2 ?_
  refine j_get X cl_79.1 (wE_8 _ cl_79.2) rfl awF8 20 (by decide) aw_776 rfl (v := .int (M 79 20)) rfl dX8_trace_3 ?_
  refine j_iconst X (v := 1) (by decide) dX8_trace_6 ?_
  refine j_isub X dX8_trace_7 ?_
  refine j_callSI X (nn := 3) (As := [.int i1, .int 0, .int ((M 79 20) - 1)]) (st := []) aw_134 (x_X8_in l D y ad i1 0 ((M 79 20) - 1) _ _ h) aw_133 aw_135 aw_5 (by decide +kernel) ⟨Nat.le_of_ble_eq_true rfl, Nat.le_of_ble_eq_true rfl⟩ rfl (Nat.le_of_ble_eq_true rfl) ⟨Nat.le_of_ble_eq_true rfl, Nat.le_of_ble_eq_true rfl⟩ dX8_trace_8 ?_
  intro r1 M1 h
  refine j_if_eq X 23 (by decide) dX8_trace_11 (fun q_2 => ?_) (fun q_2 => ?_)
  · replace h := h.1 q_2
    refine j_aload_n X 0 rfl rfl dX8_trace_23 ?_
    refine j_ldc X (v := (-1000000002)) aw_565 dX8_trace_24 ?_
    refine j_callVI X (nn := 1) (As := [.int (-1000000002)]) (st := []) (ci := 8) cl_79.1 (wE_8 _ cl_79.2) rfl aw_144 aw_145 (x_X8_errs l D y ad (-1000000002) _ _ h) aw_143 aw_146 aw_5 (by decide +kernel) ⟨Nat.le_of_ble_eq_true rfl, Nat.le_of_ble_eq_true rfl⟩ rfl (Nat.le_of_ble_eq_true rfl) ⟨Nat.le_of_ble_eq_true rfl, Nat.le_of_ble_eq_true rfl⟩ dX8_trace_26 ?_
    intro r3 M3 h
    exact j_iret X hr hlocks dX8_trace_29 h
  · replace h := h.2 q_2
    refine j_aload_n X 0 rfl rfl dX8_trace_14 ?_
    refine j_get X cl_79.1 (wE_8 _ cl_79.2) rfl awF8 19 (by decide) aw_103 rfl (v := .ref (ad 91)) rfl dX8_trace_15 ?_
    refine j_iload_n X 1 rfl rfl dX8_trace_18 ?_
    obtain ⟨hi_4, h⟩ := h
    refine j_iald X cl_91.1 cl_91.2 hi_4 dX8_trace_19 ?_
    refine j_goto X 29 (by decide) dX8_trace_20 ?_
    exact j_iret X hr hlocks dX8_trace_29 h
theorem dX8_narrow_0 : decode cX8_narrow 0 = .ok (.iload_n 0, 1) := dk_26 (by decide +kernel)
theorem dX8_narrow_1 : decode cX8_narrow 1 = .ok (.bipush 8, 2) := dk_16 (by decide +kernel)
theorem dX8_narrow_3 : decode cX8_narrow 3 = .ok (.if_icmp .ne 8, 3) := dk_160 (by decide +kernel)
theorem dX8_narrow_11 : decode cX8_narrow 11 = .ok (.iload_n 0, 1) := dk_26 (by decide +kernel)
theorem dX8_narrow_12 : decode cX8_narrow 12 = .ok (.bipush 16, 2) := dk_16 (by decide +kernel)
theorem dX8_narrow_14 : decode cX8_narrow 14 = .ok (.if_icmp .ne 8, 3) := dk_160 (by decide +kernel)
theorem dX8_narrow_22 : decode cX8_narrow 22 = .ok (.iload_n 1, 1) := dk_27 (by decide +kernel)
theorem dX8_narrow_23 : decode cX8_narrow 23 = .ok (.ireturn, 1) := dk_172 (by decide +kernel)
theorem dX8_narrow_17 : decode cX8_narrow 17 = .ok (.iload_n 1, 1) := dk_27 (by decide +kernel)
theorem dX8_narrow_18 : decode cX8_narrow 18 = .ok (.i2s, 1) := by decide +kernel
theorem dX8_narrow_19 : decode cX8_narrow 19 = .ok (.goto 4, 3) := dk_167 (by decide +kernel)
theorem dX8_narrow_6 : decode cX8_narrow 6 = .ok (.iload_n 1, 1) := dk_27 (by decide +kernel)
theorem dX8_narrow_7 : decode cX8_narrow 7 = .ok (.i2b, 1) := by decide +kernel
theorem dX8_narrow_8 : decode cX8_narrow 8 = .ok (.goto 15, 3) := dk_167 (by decide +kernel)
set_option maxRecDepth 100000 in
set_option maxHeartbeats 8000000 in
theorem x_X8_narrow (l : Launch) (D : va_G) (y : wY) (ad : Nat → Nat) (i0 : Int32) (i1 : Int32) (M : Mem) (K : Int32 → Mem → Prop) (h : wp_X8_narrow i0 i1 M K) : MI l D y ad yX8_narrow (Cond.code yX8_narrow cX8_narrow 2 (some .int)) 0 M [.int i0, .int i1] K := by
  refine MI_of (by decide) (Nat.le_of_ble_eq_true rfl) ?_
  intro p e s m args below meth c X hr hlocks
  delta wp_X8_narrow at h
  refine j_lv (lv1 := [(0, .int i0), (1, .int i1)]) [0, 1] rfl ?_
  refine j_iload_n X 0 rfl rfl dX8_narrow_0 ?_
  refine j_bipush X (v := 8) (by decide) dX8_narrow_1 ?_
  refine j_icmp_ne X 11 (by decide) dX8_narrow_3 (fun q_1 => ?_) (fun q_1 => ?_)
  · replace h := h.1 q_1
    refine j_iload_n X 0 rfl rfl dX8_narrow_11 ?_
    refine j_bipush X (v := 16) (by decide) dX8_narrow_12 ?_
    refine j_icmp_ne X 22 (by decide) dX8_narrow_14 (fun q_2 => ?_) (fun q_2 => ?_)
    · replace h := h.1 q_2
      refine j_iload_n X 1 rfl rfl dX8_narrow_22 ?_
      exact j_iret X hr hlocks dX8_narrow_23 h
    · replace h := h.2 q_2
      refine j_iload_n X 1 rfl rfl dX8_narrow_17 ?_
      refine j_i2s X dX8_narrow_18 ?_
      refine j_goto X 23 (by decide) dX8_narrow_19 ?_
      exact j_iret X hr hlocks dX8_narrow_23 h
  · replace h := h.2 q_1
    refine j_iload_n X 1 rfl rfl dX8_narrow_6 ?_
    refine j_i2b X dX8_narrow_7 ?_
    refine j_goto X 23 (by decide) dX8_narrow_8 ?_
    exact j_iret X hr hlocks dX8_narrow_23 h
