theorem dX7_sparks_67 : decode cX7_sparks 67 = .ok (.iload 5, 2) := dk_21 (by decide +kernel)
theorem dX7_sparks_69 : decode cX7_sparks 69 = .ok (.bipush 10, 2) := dk_16 (by decide +kernel)
theorem dX7_sparks_71 : decode cX7_sparks 71 = .ok (.if_icmp .ge 50, 3) := dk_162 (by decide +kernel)
theorem dX7_sparks_121 : decode cX7_sparks 121 = .ok (.iload_n 2, 1) := dk_28 (by decide +kernel)
theorem dX7_sparks_122 : decode cX7_sparks 122 = .ok (.ifCond .ne 8, 3) := dk_154 (by decide +kernel)
theorem dX7_sparks_130 : decode cX7_sparks 130 = .ok (.iload 4, 2) := dk_21 (by decide +kernel)
theorem dX7_sparks_132 : decode cX7_sparks 132 = .ok (.invokestatic 207, 3) := dk_184 (by decide +kernel)
theorem dX7_sparks_135 : decode cX7_sparks 135 = .ok (.ireturn, 1) := dk_172 (by decide +kernel)
theorem dX7_sparks_125 : decode cX7_sparks 125 = .ok (.iload 4, 2) := dk_21 (by decide +kernel)
theorem dX7_sparks_127 : decode cX7_sparks 127 = .ok (.goto 8, 3) := dk_167 (by decide +kernel)
theorem dX7_sparks_74 : decode cX7_sparks 74 = .ok (.aload_n 0, 1) := dk_42 (by decide +kernel)
theorem dX7_sparks_75 : decode cX7_sparks 75 = .ok (.invokevirtual 191, 3) := dk_182 (by decide +kernel)
theorem dX7_sparks_78 : decode cX7_sparks 78 = .ok (.aload_n 0, 1) := dk_42 (by decide +kernel)
theorem dX7_sparks_79 : decode cX7_sparks 79 = .ok (.getfield 31, 3) := dk_180 (by decide +kernel)
theorem dX7_sparks_82 : decode cX7_sparks 82 = .ok (.iload 5, 2) := dk_21 (by decide +kernel)
theorem dX7_sparks_84 : decode cX7_sparks 84 = .ok (.putfield 201, 3) := dk_181 (by decide +kernel)
theorem dX7_sparks_87 : decode cX7_sparks 87 = .ok (.aload_n 0, 1) := dk_42 (by decide +kernel)
theorem dX7_sparks_88 : decode cX7_sparks 88 = .ok (.getfield 31, 3) := dk_180 (by decide +kernel)
theorem dX7_sparks_91 : decode cX7_sparks 91 = .ok (.iconst 0, 1) := dk_3 (by decide +kernel)
theorem dX7_sparks_92 : decode cX7_sparks 92 = .ok (.invokevirtual 178, 3) := dk_182 (by decide +kernel)
theorem dX7_sparks_95 : decode cX7_sparks 95 = .ok (.aload_n 0, 1) := dk_42 (by decide +kernel)
theorem dX7_sparks_96 : decode cX7_sparks 96 = .ok (.getfield 31, 3) := dk_180 (by decide +kernel)
theorem dX7_sparks_99 : decode cX7_sparks 99 = .ok (.aload_n 3, 1) := dk_45 (by decide +kernel)
theorem dX7_sparks_100 : decode cX7_sparks 100 = .ok (.invokevirtual 233, 3) := dk_182 (by decide +kernel)
theorem dX7_sparks_103 : decode cX7_sparks 103 = .ok (.ifCond .eq 12, 3) := dk_153 (by decide +kernel)
theorem dX7_sparks_115 : decode cX7_sparks 115 = .ok (.iinc 5 1, 3) := dk_132 (by decide +kernel)
theorem dX7_sparks_118 : decode cX7_sparks 118 = .ok (.goto (-51), 3) := dk_167 (by decide +kernel)
theorem dX7_sparks_106 : decode cX7_sparks 106 = .ok (.iload 4, 2) := dk_21 (by decide +kernel)
theorem dX7_sparks_108 : decode cX7_sparks 108 = .ok (.iconst 1, 1) := dk_4 (by decide +kernel)
theorem dX7_sparks_109 : decode cX7_sparks 109 = .ok (.iload 5, 2) := dk_21 (by decide +kernel)
theorem dX7_sparks_111 : decode cX7_sparks 111 = .ok (.ishl, 1) := dk_120 (by decide +kernel)
theorem dX7_sparks_112 : decode cX7_sparks 112 = .ok (.ior, 1) := dk_128 (by decide +kernel)
theorem dX7_sparks_113 : decode cX7_sparks 113 = .ok (.istore 4, 2) := dk_54 (by decide +kernel)
theorem dX7_sparks_0 : decode cX7_sparks 0 = .ok (.iload_n 1, 1) := dk_27 (by decide +kernel)
theorem dX7_sparks_1 : decode cX7_sparks 1 = .ok (.invokestatic 225, 3) := dk_184 (by decide +kernel)
theorem dX7_sparks_4 : decode cX7_sparks 4 = .ok (.ifCond .eq 12, 3) := dk_153 (by decide +kernel)
theorem dX7_sparks_16 : decode cX7_sparks 16 = .ok (.aload_n 0, 1) := dk_42 (by decide +kernel)
theorem dX7_sparks_17 : decode cX7_sparks 17 = .ok (.ldc 68, 2) := dk_18 (by decide +kernel)
theorem dX7_sparks_19 : decode cX7_sparks 19 = .ok (.invokevirtual 69, 3) := dk_182 (by decide +kernel)
theorem dX7_sparks_22 : decode cX7_sparks 22 = .ok (.ireturn, 1) := dk_172 (by decide +kernel)
theorem dX7_sparks_7 : decode cX7_sparks 7 = .ok (.iload_n 2, 1) := dk_28 (by decide +kernel)
theorem dX7_sparks_8 : decode cX7_sparks 8 = .ok (.iconst 0, 1) := dk_3 (by decide +kernel)
theorem dX7_sparks_9 : decode cX7_sparks 9 = .ok (.iconst 1, 1) := dk_4 (by decide +kernel)
theorem dX7_sparks_10 : decode cX7_sparks 10 = .ok (.invokestatic 60, 3) := dk_184 (by decide +kernel)
theorem dX7_sparks_13 : decode cX7_sparks 13 = .ok (.ifCond .ne 10, 3) := dk_154 (by decide +kernel)
theorem dX7_sparks_23 : decode cX7_sparks 23 = .ok (.aload_n 0, 1) := dk_42 (by decide +kernel)
theorem dX7_sparks_24 : decode cX7_sparks 24 = .ok (.getfield 51, 3) := dk_180 (by decide +kernel)
theorem dX7_sparks_27 : decode cX7_sparks 27 = .ok (.iload_n 1, 1) := dk_27 (by decide +kernel)
theorem dX7_sparks_28 : decode cX7_sparks 28 = .ok (.aaload, 1) := dk_50 (by decide +kernel)
theorem dX7_sparks_29 : decode cX7_sparks 29 = .ok (.astore_n 3, 1) := dk_78 (by decide +kernel)
theorem dX7_sparks_30 : decode cX7_sparks 30 = .ok (.aload_n 3, 1) := dk_45 (by decide +kernel)
theorem dX7_sparks_31 : decode cX7_sparks 31 = .ok (.invokevirtual 228, 3) := dk_182 (by decide +kernel)
theorem dX7_sparks_34 : decode cX7_sparks 34 = .ok (.ifCond .ne 20, 3) := dk_154 (by decide +kernel)
theorem dX7_sparks_54 : decode cX7_sparks 54 = .ok (.aload_n 0, 1) := dk_42 (by decide +kernel)
theorem dX7_sparks_55 : decode cX7_sparks 55 = .ok (.ldc 197, 2) := dk_18 (by decide +kernel)
theorem dX7_sparks_57 : decode cX7_sparks 57 = .ok (.invokevirtual 69, 3) := dk_182 (by decide +kernel)
theorem dX7_sparks_60 : decode cX7_sparks 60 = .ok (.ireturn, 1) := dk_172 (by decide +kernel)
theorem dX7_sparks_37 : decode cX7_sparks 37 = .ok (.aload_n 3, 1) := dk_45 (by decide +kernel)
theorem dX7_sparks_38 : decode cX7_sparks 38 = .ok (.getfield 232, 3) := dk_180 (by decide +kernel)
theorem dX7_sparks_41 : decode cX7_sparks 41 = .ok (.aload_n 0, 1) := dk_42 (by decide +kernel)
theorem dX7_sparks_42 : decode cX7_sparks 42 = .ok (.getfield 12, 3) := dk_180 (by decide +kernel)
theorem dX7_sparks_45 : decode cX7_sparks 45 = .ok (.getfield 72, 3) := dk_180 (by decide +kernel)
theorem dX7_sparks_48 : decode cX7_sparks 48 = .ok (.getfield 86, 3) := dk_180 (by decide +kernel)
theorem dX7_sparks_51 : decode cX7_sparks 51 = .ok (.if_icmp .eq 10, 3) := dk_159 (by decide +kernel)
theorem dX7_sparks_61 : decode cX7_sparks 61 = .ok (.iconst 0, 1) := dk_3 (by decide +kernel)
theorem dX7_sparks_62 : decode cX7_sparks 62 = .ok (.istore 4, 2) := dk_54 (by decide +kernel)
theorem dX7_sparks_64 : decode cX7_sparks 64 = .ok (.iconst 0, 1) := dk_3 (by decide +kernel)
theorem dX7_sparks_65 : decode cX7_sparks 65 = .ok (.istore 5, 2) := dk_54 (by decide +kernel)
set_option maxRecDepth 100000 in
set_option maxHeartbeats 8000000 in
theorem x_X7_sparks (l : Launch) (D : va_G) (y : wY) (ad : Nat → Nat) (i1 : Int32) (i2 : Int32) (M : Mem) (K : Int32 → Mem → Prop) (h : wp_X7_sparks i1 i2 M K) : MI l D y ad yX7_sparks (Cond.code yX7_sparks cX7_sparks 6 (some .int)) 6 M [.ref (ad 0), .int i1, .int i2] K := by
  refine MI_of (by decide) (Nat.le_of_ble_eq_true rfl) ?_
  intro p e s m args below meth c X hr hlocks
  have hL67 : ∀ (i2 : Int32) (x3 : Nat) (hx3 : Cl x3 3) (n : Nat) (i4 : Int32) (i5 : Int32) (Mb : Mem), wp_X7_sparks_L67 K i2 x3 n i4 i5 Mb → J p l e (rmN 6) s m args below meth c 0 0 (QI K D y ad M s args below) D y ad (va_A (PL y ad M) s.heap.size) 6 Mb 67 [(0, .ref (ad 0)), (2, .int i2), (3, .ref (ad x3)), (4, .int i4), (5, .int i5)] [] := by
    intro i2 x3 hx3 n
    induction n with
    | zero => intro i4 i5 Mb h; exact False.elim h
    | succ n hB67 =>
      intro i4 i5 Mb h
      replace h : wp_X7_sparks_l67 K i2 x3 (wp_X7_sparks_L67 K i2 x3 n) i4 i5 Mb := h
      delta wp_X7_sparks_l67 at h
      refine j_iload X 4 rfl dX7_sparks_67 ?_
      refine j_bipush X (v := 10) (by decide) dX7_sparks_69 ?_
      refine j_icmp_ge X 121 (by decide) dX7_sparks_71 (fun q_6701 => ?_) (fun q_6701 => ?_)
      · replace h := h.1 q_6701
        refine j_iload_n X 1 rfl rfl dX7_sparks_121 ?_
        refine j_if_ne X 130 (by decide) dX7_sparks_122 (fun q_6702 => ?_) (fun q_6702 => ?_)
        · replace h := h.1 q_6702
          refine j_iload X 3 rfl dX7_sparks_130 ?_
          refine j_callSI X (nn := 1) (As := [.int i4]) (st := []) aw_470 (x_J6_bitCount_0f7a4 l D y ad i4 _ _ h) aw_605 aw_472 aw_471 (by decide +kernel) ⟨Nat.le_of_ble_eq_true rfl, Nat.le_of_ble_eq_true rfl⟩ rfl (Nat.le_of_ble_eq_true rfl) ⟨Nat.le_of_ble_eq_true rfl, Nat.le_of_ble_eq_true rfl⟩ dX7_sparks_132 ?_
          intro r6703 M6703 h
          exact j_iret X hr hlocks dX7_sparks_135 h
        · replace h := h.2 q_6702
          refine j_iload X 3 rfl dX7_sparks_125 ?_
          refine j_goto X 135 (by decide) dX7_sparks_127 ?_
          exact j_iret X hr hlocks dX7_sparks_135 h
      · replace h := h.2 q_6701
        refine j_aload_n X 0 rfl rfl dX7_sparks_74 ?_
        refine j_callVV X (nn := 0) (As := []) (st := []) (ci := 7) cl_0.1 (wE_7 _ cl_0.2) rfl aw_534 aw_535 (x_X7_think l D y ad  _ _ h) aw_533 aw_536 aw_2 (by decide +kernel) ⟨Nat.le_of_ble_eq_true rfl, Nat.le_of_ble_eq_true rfl⟩ rfl (Nat.le_of_ble_eq_true rfl) ⟨Nat.le_of_ble_eq_true rfl, Nat.le_of_ble_eq_true rfl⟩ dX7_sparks_75 ?_
        intro M6704 h
        refine j_aload_n X 0 rfl rfl dX7_sparks_78 ?_
        refine j_get X cl_0.1 (wE_7 _ cl_0.2) rfl awF7 2 (by decide) aw_21 rfl (v := .ref (ad 49)) rfl dX7_sparks_79 ?_
        refine j_iload X 4 rfl dX7_sparks_82 ?_
        refine j_putN X (up M6704 49 4 i5) up_o cl_49.1 (wE_0 _ cl_49.2) rfl awF0 4 (by decide) (wP_0_4 _ _ cl_49.2) tyX0 tyX0_ok nmX0 rfl (ty := .int) (by decide +kernel) rfl rfl (Nat.le_of_ble_eq_true rfl) (List.mem_of_getElem? (i := 16) rfl) rfl dX7_sparks_84 ?_
        refine j_aload_n X 0 rfl rfl dX7_sparks_87 ?_
        refine j_get X cl_0.1 (wE_7 _ cl_0.2) rfl awF7 2 (by decide) aw_21 rfl (v := .ref (ad 49)) rfl dX7_sparks_88 ?_
        refine j_iconst X (v := 0) (by decide) dX7_sparks_91 ?_
        refine j_callVNV X (nn := 1) (As := [.int 0]) (st := []) (ci := 0) cl_49.1 (wE_0 _ cl_49.2) rfl aw_439 aw_440 (x_X0_passDay l D y ad 49 0 cl_49 _ _ h) (List.mem_of_getElem? (i := 27) rfl) aw_441 aw_20 (by decide +kernel) ⟨Nat.le_of_ble_eq_true rfl, Nat.le_of_ble_eq_true rfl⟩ rfl (Nat.le_of_ble_eq_true rfl) ⟨Nat.le_of_ble_eq_true rfl, Nat.le_of_ble_eq_true rfl⟩ dX7_sparks_92 ?_
        intro M6705 h
        refine j_aload_n X 0 rfl rfl dX7_sparks_95 ?_
        refine j_get X cl_0.1 (wE_7 _ cl_0.2) rfl awF7 2 (by decide) aw_21 rfl (v := .ref (ad 49)) rfl dX7_sparks_96 ?_
        refine j_aload_n X 2 rfl rfl dX7_sparks_99 ?_
        refine j_callVNI X (nn := 1) (As := [.ref (ad x3)]) (st := []) (ci := 0) cl_49.1 (wE_0 _ cl_49.2) rfl aw_645 aw_646 (x_X0_hasEdges l D y ad 49 x3 cl_49 hx3 _ _ h) (List.mem_of_getElem? (i := 39) rfl) aw_647 aw_20 (by decide +kernel) ⟨Nat.le_of_ble_eq_true rfl, Nat.le_of_ble_eq_true rfl⟩ rfl (Nat.le_of_ble_eq_true rfl) ⟨Nat.le_of_ble_eq_true rfl, Nat.le_of_ble_eq_true rfl⟩ dX7_sparks_100 ?_
        intro r6706 M6706 h
        refine j_if_eq X 115 (by decide) dX7_sparks_103 (fun q_6707 => ?_) (fun q_6707 => ?_)
        · replace h := h.1 q_6707
          refine j_iinc X (v := (i5 + 1)) 4 [(5, .int (i5 + 1)), (0, .ref (ad 0)), (2, .int i2), (3, .ref (ad x3)), (4, .int i4)] rfl rfl (by decide) rfl dX7_sparks_115 ?_
          refine j_goto X 67 (by decide) dX7_sparks_118 ?_
          refine j_lv (lv1 := [(0, .ref (ad 0)), (2, .int i2), (3, .ref (ad x3)), (4, .int i4), (5, .int (i5 + 1))]) [1, 2, 3, 4, 0] rfl ?_
          exact hB67 _ _ _ h
        · replace h := h.2 q_6707
          refine j_iload X 3 rfl dX7_sparks_106 ?_
          refine j_iconst X (v := 1) (by decide) dX7_sparks_108 ?_
          refine j_iload X 4 rfl dX7_sparks_109 ?_
          refine j_ishl X dX7_sparks_111 ?_
          refine j_ior X dX7_sparks_112 ?_
          refine j_istore X [(4, .int (i4 ||| ((1 : Int32) <<< (i5 &&& 31)))), (0, .ref (ad 0)), (2, .int i2), (3, .ref (ad x3)), (5, .int i5)] (by decide) rfl dX7_sparks_113 ?_
          refine j_iinc X (v := (i5 + 1)) 4 [(5, .int (i5 + 1)), (4, .int (i4 ||| ((1 : Int32) <<< (i5 &&& 31)))), (0, .ref (ad 0)), (2, .int i2), (3, .ref (ad x3))] rfl rfl (by decide) rfl dX7_sparks_115 ?_
          refine j_goto X 67 (by decide) dX7_sparks_118 ?_
          refine j_lv (lv1 := [(0, .ref (ad 0)), (2, .int i2), (3, .ref (ad x3)), (4, .int (i4 ||| ((1 : Int32) <<< (i5 &&& 31)))), (5, .int (i5 + 1))]) [2, 3, 4, 1, 0] rfl ?_
          exact hB67 _ _ _ h
  delta wp_X7_sparks at h
  refine j_lv (lv1 := [(0, .ref (ad 0)), (1, .int i1), (2, .int i2)]) [0, 1, 2] rfl ?_
  refine j_iload_n X 1 rfl rfl dX7_sparks_0 ?_
  refine j_callSI X (nn := 1) (As := [.int i1]) (st := []) aw_639 (x_X7_isSheet l D y ad i1 _ _ h) aw_638 aw_640 aw_2 (by decide +kernel) ⟨Nat.le_of_ble_eq_true rfl, Nat.le_of_ble_eq_true rfl⟩ rfl (Nat.le_of_ble_eq_true rfl) ⟨Nat.le_of_ble_eq_true rfl, Nat.le_of_ble_eq_true rfl⟩ dX7_sparks_1 ?_
  intro r1 M1 h
  refine j_if_eq X 16 (by decide) dX7_sparks_4 (fun q_2 => ?_) (fun q_2 => ?_)
  · replace h := h.1 q_2
    refine j_aload_n X 0 rfl rfl dX7_sparks_16 ?_
    refine j_ldc X (v := (-1000000001)) aw_108 dX7_sparks_17 ?_
    refine j_callVI X (nn := 1) (As := [.int (-1000000001)]) (st := []) (ci := 7) cl_0.1 (wE_7 _ cl_0.2) rfl aw_117 aw_118 (x_X7_refuse l D y ad (-1000000001) _ _ h) aw_116 aw_119 aw_2 (by decide +kernel) ⟨Nat.le_of_ble_eq_true rfl, Nat.le_of_ble_eq_true rfl⟩ rfl (Nat.le_of_ble_eq_true rfl) ⟨Nat.le_of_ble_eq_true rfl, Nat.le_of_ble_eq_true rfl⟩ dX7_sparks_19 ?_
    intro r3 M3 h
    exact j_iret X hr hlocks dX7_sparks_22 h
  · replace h := h.2 q_2
    refine j_iload_n X 2 rfl rfl dX7_sparks_7 ?_
    refine j_iconst X (v := 0) (by decide) dX7_sparks_8 ?_
    refine j_iconst X (v := 1) (by decide) dX7_sparks_9 ?_
    refine j_callSI X (nn := 3) (As := [.int i2, .int 0, .int 1]) (st := []) aw_110 (x_X7_isWithin l D y ad i2 0 1 _ _ h) aw_109 aw_111 aw_2 (by decide +kernel) ⟨Nat.le_of_ble_eq_true rfl, Nat.le_of_ble_eq_true rfl⟩ rfl (Nat.le_of_ble_eq_true rfl) ⟨Nat.le_of_ble_eq_true rfl, Nat.le_of_ble_eq_true rfl⟩ dX7_sparks_10 ?_
    intro r4 M4 h
    refine j_if_ne X 23 (by decide) dX7_sparks_13 (fun q_5 => ?_) (fun q_5 => ?_)
    · replace h := h.1 q_5
      refine j_aload_n X 0 rfl rfl dX7_sparks_23 ?_
      refine j_get X cl_0.1 (wE_7 _ cl_0.2) rfl awF7 5 (by decide) aw_31 rfl (v := .ref (ad 69)) rfl dX7_sparks_24 ?_
      refine j_iload_n X 1 rfl rfl dX7_sparks_27 ?_
      obtain ⟨hi_6, h⟩ := h
      refine j_aald11 X cl_69.1 cl_69.2 hi_6 dX7_sparks_28 ?_
      refine j_eqr (v := (70 + 2 * i1.toNatClampNeg)) (re_69 hi_6) ?_
      have hk_7 := rc_69 hi_6
      refine j_astore_n X [(3, .ref (ad (70 + 2 * i1.toNatClampNeg))), (0, .ref (ad 0)), (1, .int i1), (2, .int i2)] rfl (by decide) rfl dX7_sparks_29 ?_
      refine j_aload_n X 0 rfl rfl dX7_sparks_30 ?_
      refine j_callVNI X (nn := 0) (As := []) (st := []) (ci := 3) hk_7.1 (wE_3 _ hk_7.2) rfl aw_641 aw_642 (x_X3_isMissing l D y ad (70 + 2 * i1.toNatClampNeg) hk_7 _ _ h) (List.mem_of_getElem? (i := 38) rfl) aw_643 aw_35 (by decide +kernel) ⟨Nat.le_of_ble_eq_true rfl, Nat.le_of_ble_eq_true rfl⟩ rfl (Nat.le_of_ble_eq_true rfl) ⟨Nat.le_of_ble_eq_true rfl, Nat.le_of_ble_eq_true rfl⟩ dX7_sparks_31 ?_
      intro r8 M8 h
      refine j_if_ne X 54 (by decide) dX7_sparks_34 (fun q_9 => ?_) (fun q_9 => ?_)
      · replace h := h.1 q_9
        refine j_aload_n X 1 rfl rfl dX7_sparks_54 ?_
        refine j_ldc X (v := (-1000000002)) aw_560 dX7_sparks_55 ?_
        refine j_callVI X (nn := 1) (As := [.int (-1000000002)]) (st := []) (ci := 7) cl_0.1 (wE_7 _ cl_0.2) rfl aw_117 aw_118 (x_X7_refuse l D y ad (-1000000002) _ _ h) aw_116 aw_119 aw_2 (by decide +kernel) ⟨Nat.le_of_ble_eq_true rfl, Nat.le_of_ble_eq_true rfl⟩ rfl (Nat.le_of_ble_eq_true rfl) ⟨Nat.le_of_ble_eq_true rfl, Nat.le_of_ble_eq_true rfl⟩ dX7_sparks_57 ?_
        intro r10 M10 h
        exact j_iret X hr hlocks dX7_sparks_60 h
      · replace h := h.2 q_9
        refine j_aload_n X 0 rfl rfl dX7_sparks_37 ?_
        refine j_getN X hk_7.1 (wE_3 _ hk_7.2) rfl awF3 2 (by decide) (List.mem_of_getElem? (i := 36) rfl) rfl (v := .int (M8 (70 + 2 * i1.toNatClampNeg) 2)) rfl dX7_sparks_38 ?_
        refine j_aload_n X 1 rfl rfl dX7_sparks_41 ?_
        refine j_get X cl_0.1 (wE_7 _ cl_0.2) rfl awF7 0 (by decide) aw_16 rfl (v := .ref (ad 1)) rfl dX7_sparks_42 ?_
        refine j_getN X cl_1.1 (wE_6 _ cl_1.2) rfl awF6 2 (by decide) (List.mem_of_getElem? (i := 23) rfl) rfl (v := .ref (ad 12)) rfl dX7_sparks_45 ?_
        refine j_getN X cl_12.1 (wE_0 _ cl_12.2) rfl awF0 3 (by decide) (List.mem_of_getElem? (i := 15) rfl) rfl (v := .int (M8 12 3)) rfl dX7_sparks_48 ?_
        refine j_icmp_eq X 61 (by decide) dX7_sparks_51 (fun q_11 => ?_) (fun q_11 => ?_)
        · replace h := h.1 q_11
          refine j_iconst X (v := 0) (by decide) dX7_sparks_61 ?_
          refine j_istore X [(4, .int 0), (3, .ref (ad (70 + 2 * i1.toNatClampNeg))), (0, .ref (ad 0)), (1, .int i1), (2, .int i2)] (by decide) rfl dX7_sparks_62 ?_
          refine j_iconst X (v := 0) (by decide) dX7_sparks_64 ?_
          refine j_istore X [(5, .int 0), (4, .int 0), (3, .ref (ad (70 + 2 * i1.toNatClampNeg))), (0, .ref (ad 0)), (1, .int i1), (2, .int i2)] (by decide) rfl dX7_sparks_65 ?_
          refine j_lv (lv1 := [(0, .ref (ad 0)), (2, .int i2), (3, .ref (ad (70 + 2 * i1.toNatClampNeg))), (4, .int 0), (5, .int 0)]) [3, 5, 2, 1, 0] rfl ?_
          obtain ⟨n67, h⟩ := h
          exact hL67 _ _ hk_7  n67 _ _ _ h
        · replace h := h.2 q_11
          refine j_aload_n X 1 rfl rfl dX7_sparks_54 ?_
          refine j_ldc X (v := (-1000000002)) aw_560 dX7_sparks_55 ?_
          refine j_callVI X (nn := 1) (As := [.int (-1000000002)]) (st := []) (ci := 7) cl_0.1 (wE_7 _ cl_0.2) rfl aw_117 aw_118 (x_X7_refuse l D y ad (-1000000002) _ _ h) aw_116 aw_119 aw_2 (by decide +kernel) ⟨Nat.le_of_ble_eq_true rfl, Nat.le_of_ble_eq_true rfl⟩ rfl (Nat.le_of_ble_eq_true rfl) ⟨Nat.le_of_ble_eq_true rfl, Nat.le_of_ble_eq_true rfl⟩ dX7_sparks_57 ?_
          intro r12 M12 h
          exact j_iret X hr hlocks dX7_sparks_60 h
    · replace h := h.2 q_5
      refine j_aload_n X 0 rfl rfl dX7_sparks_16 ?_
      refine j_ldc X (v := (-1000000001)) aw_108 dX7_sparks_17 ?_
      refine j_callVI X (nn := 1) (As := [.int (-1000000001)]) (st := []) (ci := 7) cl_0.1 (wE_7 _ cl_0.2) rfl aw_117 aw_118 (x_X7_refuse l D y ad (-1000000001) _ _ h) aw_116 aw_119 aw_2 (by decide +kernel) ⟨Nat.le_of_ble_eq_true rfl, Nat.le_of_ble_eq_true rfl⟩ rfl (Nat.le_of_ble_eq_true rfl) ⟨Nat.le_of_ble_eq_true rfl, Nat.le_of_ble_eq_true rfl⟩ dX7_sparks_19 ?_
      intro r13 M13 h
      exact j_iret X hr hlocks dX7_sparks_22 h
theorem dX7_greatestOf_4 : decode cX7_greatestOf 4 = .ok (.iload_n 2, 1) := dk_28 (by decide +kernel)
theorem dX7_greatestOf_5 : decode cX7_greatestOf 5 = .ok (.bipush 9, 2) := dk_16 (by decide +kernel)
theorem dX7_greatestOf_7 : decode cX7_greatestOf 7 = .ok (.if_icmp .ge 19, 3) := dk_162 (by decide +kernel)
theorem dX7_greatestOf_26 : decode cX7_greatestOf 26 = .ok (.iload_n 1, 1) := dk_27 (by decide +kernel)
theorem dX7_greatestOf_27 : decode cX7_greatestOf 27 = .ok (.ireturn, 1) := dk_172 (by decide +kernel)
theorem dX7_greatestOf_10 : decode cX7_greatestOf 10 = .ok (.iload_n 0, 1) := dk_26 (by decide +kernel)
theorem dX7_greatestOf_11 : decode cX7_greatestOf 11 = .ok (.iload_n 2, 1) := dk_28 (by decide +kernel)
theorem dX7_greatestOf_12 : decode cX7_greatestOf 12 = .ok (.ishr, 1) := dk_122 (by decide +kernel)
theorem dX7_greatestOf_13 : decode cX7_greatestOf 13 = .ok (.iconst 1, 1) := dk_4 (by decide +kernel)
theorem dX7_greatestOf_14 : decode cX7_greatestOf 14 = .ok (.iand, 1) := dk_126 (by decide +kernel)
theorem dX7_greatestOf_15 : decode cX7_greatestOf 15 = .ok (.ifCond .eq 5, 3) := dk_153 (by decide +kernel)
theorem dX7_greatestOf_20 : decode cX7_greatestOf 20 = .ok (.iinc 2 1, 3) := dk_132 (by decide +kernel)
theorem dX7_greatestOf_23 : decode cX7_greatestOf 23 = .ok (.goto (-19), 3) := dk_167 (by decide +kernel)
theorem dX7_greatestOf_18 : decode cX7_greatestOf 18 = .ok (.iload_n 2, 1) := dk_28 (by decide +kernel)
theorem dX7_greatestOf_19 : decode cX7_greatestOf 19 = .ok (.istore_n 1, 1) := dk_60 (by decide +kernel)
theorem dX7_greatestOf_0 : decode cX7_greatestOf 0 = .ok (.iconst (-1), 1) := dk_2 (by decide +kernel)
theorem dX7_greatestOf_1 : decode cX7_greatestOf 1 = .ok (.istore_n 1, 1) := dk_60 (by decide +kernel)
theorem dX7_greatestOf_2 : decode cX7_greatestOf 2 = .ok (.iconst 0, 1) := dk_3 (by decide +kernel)
theorem dX7_greatestOf_3 : decode cX7_greatestOf 3 = .ok (.istore_n 2, 1) := dk_61 (by decide +kernel)
set_option maxRecDepth 100000 in
set_option maxHeartbeats 8000000 in
theorem x_X7_greatestOf (l : Launch) (D : va_G) (y : wY) (ad : Nat → Nat) (i0 : Int32) (M : Mem) (K : Int32 → Mem → Prop) (h : wp_X7_greatestOf i0 M K) : MI l D y ad yX7_greatestOf (Cond.code yX7_greatestOf cX7_greatestOf 3 (some .int)) 0 M [.int i0] K := by
  refine MI_of (by decide) (Nat.le_of_ble_eq_true rfl) ?_
  intro p e s m args below meth c X hr hlocks
  have hL4 : ∀ (i0 : Int32) (n : Nat) (i1 : Int32) (i2 : Int32) (Mb : Mem), wp_X7_greatestOf_L4 K i0 n i1 i2 Mb → J p l e (rmN 0) s m args below meth c 0 0 (QI K D y ad M s args below) D y ad (va_A (PL y ad M) s.heap.size) 3 Mb 4 [(0, .int i0), (1, .int i1), (2, .int i2)] [] := by
    intro i0 n
    induction n with
    | zero => intro i1 i2 Mb h; exact False.elim h
    | succ n hB4 =>
      intro i1 i2 Mb h
      replace h : wp_X7_greatestOf_l4 K i0 (wp_X7_greatestOf_L4 K i0 n) i1 i2 Mb := h
      delta wp_X7_greatestOf_l4 at h
      refine j_iload_n X 2 rfl rfl dX7_greatestOf_4 ?_
      refine j_bipush X (v := 9) (by decide) dX7_greatestOf_5 ?_
      refine j_icmp_ge X 26 (by decide) dX7_greatestOf_7 (fun q_401 => ?_) (fun q_401 => ?_)
      · replace h := h.1 q_401
        refine j_iload_n X 1 rfl rfl dX7_greatestOf_26 ?_
        exact j_iret X hr hlocks dX7_greatestOf_27 h
      · replace h := h.2 q_401
        refine j_iload_n X 0 rfl rfl dX7_greatestOf_10 ?_
        refine j_iload_n X 2 rfl rfl dX7_greatestOf_11 ?_
        refine j_ishr X dX7_greatestOf_12 ?_
        refine j_iconst X (v := 1) (by decide) dX7_greatestOf_13 ?_
        refine j_iand X dX7_greatestOf_14 ?_
        refine j_if_eq X 20 (by decide) dX7_greatestOf_15 (fun q_402 => ?_) (fun q_402 => ?_)
        · replace h := h.1 q_402
          refine j_iinc X (v := (i2 + 1)) 2 [(2, .int (i2 + 1)), (0, .int i0), (1, .int i1)] rfl rfl (by decide) rfl dX7_greatestOf_20 ?_
          refine j_goto X 4 (by decide) dX7_greatestOf_23 ?_
          refine j_lv (lv1 := [(0, .int i0), (1, .int i1), (2, .int (i2 + 1))]) [1, 2, 0] rfl ?_
          exact hB4 _ _ _ h
        · replace h := h.2 q_402
          refine j_iload_n X 2 rfl rfl dX7_greatestOf_18 ?_
          refine j_istore_n X [(1, .int i2), (0, .int i0), (2, .int i2)] rfl (by decide) rfl dX7_greatestOf_19 ?_
          refine j_iinc X (v := (i2 + 1)) 2 [(2, .int (i2 + 1)), (1, .int i2), (0, .int i0)] rfl rfl (by decide) rfl dX7_greatestOf_20 ?_
          refine j_goto X 4 (by decide) dX7_greatestOf_23 ?_
          refine j_lv (lv1 := [(0, .int i0), (1, .int i2), (2, .int (i2 + 1))]) [2, 1, 0] rfl ?_
          exact hB4 _ _ _ h
  delta wp_X7_greatestOf at h
  refine j_lv (lv1 := [(0, .int i0)]) [0] rfl ?_
  refine j_iconst X (v := (-1)) (by decide) dX7_greatestOf_0 ?_
  refine j_istore_n X [(1, .int (-1)), (0, .int i0)] rfl (by decide) rfl dX7_greatestOf_1 ?_
  refine j_iconst X (v := 0) (by decide) dX7_greatestOf_2 ?_
  refine j_istore_n X [(2, .int 0), (1, .int (-1)), (0, .int i0)] rfl (by decide) rfl dX7_greatestOf_3 ?_
  refine j_lv (lv1 := [(0, .int i0), (1, .int (-1)), (2, .int 0)]) [2, 1, 0] rfl ?_
  obtain ⟨n4, h⟩ := h
  exact hL4 _   n4 _ _ _ h
theorem dX7_last_27 : decode cX7_last 27 = .ok (.iload 4, 2) := dk_21 (by decide +kernel)
theorem dX7_last_29 : decode cX7_last 29 = .ok (.bipush 60, 2) := dk_16 (by decide +kernel)
theorem dX7_last_31 : decode cX7_last 31 = .ok (.if_icmp .gt 54, 3) := dk_163 (by decide +kernel)
theorem dX7_last_85 : decode cX7_last 85 = .ok (.iload_n 2, 1) := dk_28 (by decide +kernel)
theorem dX7_last_86 : decode cX7_last 86 = .ok (.ifCond .ge 10, 3) := dk_156 (by decide +kernel)
theorem dX7_last_96 : decode cX7_last 96 = .ok (.iload_n 1, 1) := dk_27 (by decide +kernel)
theorem dX7_last_97 : decode cX7_last 97 = .ok (.ifCond .ne 7, 3) := dk_154 (by decide +kernel)
theorem dX7_last_104 : decode cX7_last 104 = .ok (.iload_n 3, 1) := dk_29 (by decide +kernel)
theorem dX7_last_105 : decode cX7_last 105 = .ok (.ireturn, 1) := dk_172 (by decide +kernel)
theorem dX7_last_100 : decode cX7_last 100 = .ok (.iload_n 2, 1) := dk_28 (by decide +kernel)
theorem dX7_last_101 : decode cX7_last 101 = .ok (.goto 4, 3) := dk_167 (by decide +kernel)
theorem dX7_last_89 : decode cX7_last 89 = .ok (.aload_n 0, 1) := dk_42 (by decide +kernel)
theorem dX7_last_90 : decode cX7_last 90 = .ok (.ldc 197, 2) := dk_18 (by decide +kernel)
theorem dX7_last_92 : decode cX7_last 92 = .ok (.invokevirtual 69, 3) := dk_182 (by decide +kernel)
theorem dX7_last_95 : decode cX7_last 95 = .ok (.ireturn, 1) := dk_172 (by decide +kernel)
theorem dX7_last_34 : decode cX7_last 34 = .ok (.aload_n 0, 1) := dk_42 (by decide +kernel)
theorem dX7_last_35 : decode cX7_last 35 = .ok (.getfield 31, 3) := dk_180 (by decide +kernel)
theorem dX7_last_38 : decode cX7_last 38 = .ok (.invokevirtual 198, 3) := dk_182 (by decide +kernel)
theorem dX7_last_41 : decode cX7_last 41 = .ok (.istore 5, 2) := dk_54 (by decide +kernel)
theorem dX7_last_43 : decode cX7_last 43 = .ok (.aload_n 0, 1) := dk_42 (by decide +kernel)
theorem dX7_last_44 : decode cX7_last 44 = .ok (.getfield 31, 3) := dk_180 (by decide +kernel)
theorem dX7_last_47 : decode cX7_last 47 = .ok (.iconst 0, 1) := dk_3 (by decide +kernel)
theorem dX7_last_48 : decode cX7_last 48 = .ok (.invokevirtual 178, 3) := dk_182 (by decide +kernel)
theorem dX7_last_51 : decode cX7_last 51 = .ok (.aload_n 0, 1) := dk_42 (by decide +kernel)
theorem dX7_last_52 : decode cX7_last 52 = .ok (.getfield 31, 3) := dk_180 (by decide +kernel)
theorem dX7_last_55 : decode cX7_last 55 = .ok (.invokevirtual 198, 3) := dk_182 (by decide +kernel)
theorem dX7_last_58 : decode cX7_last 58 = .ok (.iload 5, 2) := dk_21 (by decide +kernel)
theorem dX7_last_60 : decode cX7_last 60 = .ok (.iconst (-1), 1) := dk_2 (by decide +kernel)
theorem dX7_last_61 : decode cX7_last 61 = .ok (.ixor, 1) := dk_130 (by decide +kernel)
theorem dX7_last_62 : decode cX7_last 62 = .ok (.iand, 1) := dk_126 (by decide +kernel)
theorem dX7_last_63 : decode cX7_last 63 = .ok (.istore 6, 2) := dk_54 (by decide +kernel)
theorem dX7_last_65 : decode cX7_last 65 = .ok (.iload 6, 2) := dk_21 (by decide +kernel)
theorem dX7_last_67 : decode cX7_last 67 = .ok (.ifCond .eq 12, 3) := dk_153 (by decide +kernel)
theorem dX7_last_79 : decode cX7_last 79 = .ok (.iinc 4 1, 3) := dk_132 (by decide +kernel)
theorem dX7_last_82 : decode cX7_last 82 = .ok (.goto (-55), 3) := dk_167 (by decide +kernel)
theorem dX7_last_70 : decode cX7_last 70 = .ok (.iload 6, 2) := dk_21 (by decide +kernel)
theorem dX7_last_72 : decode cX7_last 72 = .ok (.invokestatic 237, 3) := dk_184 (by decide +kernel)
theorem dX7_last_75 : decode cX7_last 75 = .ok (.istore_n 2, 1) := dk_61 (by decide +kernel)
theorem dX7_last_76 : decode cX7_last 76 = .ok (.iload 4, 2) := dk_21 (by decide +kernel)
theorem dX7_last_78 : decode cX7_last 78 = .ok (.istore_n 3, 1) := dk_62 (by decide +kernel)
theorem dX7_last_0 : decode cX7_last 0 = .ok (.iload_n 1, 1) := dk_27 (by decide +kernel)
theorem dX7_last_1 : decode cX7_last 1 = .ok (.iconst 0, 1) := dk_3 (by decide +kernel)
theorem dX7_last_2 : decode cX7_last 2 = .ok (.iconst 1, 1) := dk_4 (by decide +kernel)
theorem dX7_last_3 : decode cX7_last 3 = .ok (.invokestatic 60, 3) := dk_184 (by decide +kernel)
theorem dX7_last_6 : decode cX7_last 6 = .ok (.ifCond .ne 10, 3) := dk_154 (by decide +kernel)
theorem dX7_last_16 : decode cX7_last 16 = .ok (.aload_n 0, 1) := dk_42 (by decide +kernel)
theorem dX7_last_17 : decode cX7_last 17 = .ok (.invokevirtual 191, 3) := dk_182 (by decide +kernel)
theorem dX7_last_20 : decode cX7_last 20 = .ok (.iconst (-1), 1) := dk_2 (by decide +kernel)
theorem dX7_last_21 : decode cX7_last 21 = .ok (.istore_n 2, 1) := dk_61 (by decide +kernel)
theorem dX7_last_22 : decode cX7_last 22 = .ok (.iconst 0, 1) := dk_3 (by decide +kernel)
theorem dX7_last_23 : decode cX7_last 23 = .ok (.istore_n 3, 1) := dk_62 (by decide +kernel)
theorem dX7_last_24 : decode cX7_last 24 = .ok (.iconst 1, 1) := dk_4 (by decide +kernel)
theorem dX7_last_25 : decode cX7_last 25 = .ok (.istore 4, 2) := dk_54 (by decide +kernel)
theorem dX7_last_9 : decode cX7_last 9 = .ok (.aload_n 0, 1) := dk_42 (by decide +kernel)
theorem dX7_last_10 : decode cX7_last 10 = .ok (.ldc 68, 2) := dk_18 (by decide +kernel)
theorem dX7_last_12 : decode cX7_last 12 = .ok (.invokevirtual 69, 3) := dk_182 (by decide +kernel)
theorem dX7_last_15 : decode cX7_last 15 = .ok (.ireturn, 1) := dk_172 (by decide +kernel)
set_option maxRecDepth 100000 in
set_option maxHeartbeats 8000000 in
theorem x_X7_last (l : Launch) (D : va_G) (y : wY) (ad : Nat → Nat) (i1 : Int32) (M : Mem) (K : Int32 → Mem → Prop) (h : wp_X7_last i1 M K) : MI l D y ad yX7_last (Cond.code yX7_last cX7_last 7 (some .int)) 6 M [.ref (ad 0), .int i1] K := by
  refine MI_of (by decide) (Nat.le_of_ble_eq_true rfl) ?_
  intro p e s m args below meth c X hr hlocks
  have hL27 : ∀ (i1 : Int32) (n : Nat) (i2 : Int32) (i3 : Int32) (i4 : Int32) (Mb : Mem), wp_X7_last_L27 K i1 n i2 i3 i4 Mb → J p l e (rmN 6) s m args below meth c 0 0 (QI K D y ad M s args below) D y ad (va_A (PL y ad M) s.heap.size) 7 Mb 27 [(0, .ref (ad 0)), (1, .int i1), (2, .int i2), (3, .int i3), (4, .int i4)] [] := by
    intro i1 n
    induction n with
    | zero => intro i2 i3 i4 Mb h; exact False.elim h
    | succ n hB27 =>
      intro i2 i3 i4 Mb h
      replace h : wp_X7_last_l27 K i1 (wp_X7_last_L27 K i1 n) i2 i3 i4 Mb := h
      delta wp_X7_last_l27 at h
      refine j_iload X 4 rfl dX7_last_27 ?_
      refine j_bipush X (v := 60) (by decide) dX7_last_29 ?_
      refine j_icmp_gt X 85 (by decide) dX7_last_31 (fun q_2701 => ?_) (fun q_2701 => ?_)
      · replace h := h.1 q_2701
        refine j_iload_n X 2 rfl rfl dX7_last_85 ?_
        refine j_if_ge X 96 (by decide) dX7_last_86 (fun q_2702 => ?_) (fun q_2702 => ?_)
        · replace h := h.1 q_2702
          refine j_iload_n X 1 rfl rfl dX7_last_96 ?_
          refine j_if_ne X 104 (by decide) dX7_last_97 (fun q_2703 => ?_) (fun q_2703 => ?_)
          · replace h := h.1 q_2703
            refine j_iload_n X 3 rfl rfl dX7_last_104 ?_
            exact j_iret X hr hlocks dX7_last_105 h
          · replace h := h.2 q_2703
            refine j_iload_n X 2 rfl rfl dX7_last_100 ?_
            refine j_goto X 105 (by decide) dX7_last_101 ?_
            exact j_iret X hr hlocks dX7_last_105 h
        · replace h := h.2 q_2702
          refine j_aload_n X 0 rfl rfl dX7_last_89 ?_
          refine j_ldc X (v := (-1000000002)) aw_560 dX7_last_90 ?_
          refine j_callVI X (nn := 1) (As := [.int (-1000000002)]) (st := []) (ci := 7) cl_0.1 (wE_7 _ cl_0.2) rfl aw_117 aw_118 (x_X7_refuse l D y ad (-1000000002) _ _ h) aw_116 aw_119 aw_2 (by decide +kernel) ⟨Nat.le_of_ble_eq_true rfl, Nat.le_of_ble_eq_true rfl⟩ rfl (Nat.le_of_ble_eq_true rfl) ⟨Nat.le_of_ble_eq_true rfl, Nat.le_of_ble_eq_true rfl⟩ dX7_last_92 ?_
          intro r2704 M2704 h
          exact j_iret X hr hlocks dX7_last_95 h
      · replace h := h.2 q_2701
        refine j_aload_n X 0 rfl rfl dX7_last_34 ?_
        refine j_get X cl_0.1 (wE_7 _ cl_0.2) rfl awF7 2 (by decide) aw_21 rfl (v := .ref (ad 49)) rfl dX7_last_35 ?_
        refine j_callVNI X (nn := 0) (As := []) (st := []) (ci := 0) cl_49.1 (wE_0 _ cl_49.2) rfl aw_466 aw_467 (x_X0_setEnded l D y ad 49 cl_49 _ _ h) (List.mem_of_getElem? (i := 35) rfl) aw_468 aw_20 (by decide +kernel) ⟨Nat.le_of_ble_eq_true rfl, Nat.le_of_ble_eq_true rfl⟩ rfl (Nat.le_of_ble_eq_true rfl) ⟨Nat.le_of_ble_eq_true rfl, Nat.le_of_ble_eq_true rfl⟩ dX7_last_38 ?_
        intro r2705 M2705 h
        refine j_istore X [(5, .int r2705), (0, .ref (ad 0)), (1, .int i1), (2, .int i2), (3, .int i3), (4, .int i4)] (by decide) rfl dX7_last_41 ?_
        refine j_aload_n X 1 rfl rfl dX7_last_43 ?_
        refine j_get X cl_0.1 (wE_7 _ cl_0.2) rfl awF7 2 (by decide) aw_21 rfl (v := .ref (ad 49)) rfl dX7_last_44 ?_
        refine j_iconst X (v := 0) (by decide) dX7_last_47 ?_
        refine j_callVNV X (nn := 1) (As := [.int 0]) (st := []) (ci := 0) cl_49.1 (wE_0 _ cl_49.2) rfl aw_439 aw_440 (x_X0_passDay l D y ad 49 0 cl_49 _ _ h) (List.mem_of_getElem? (i := 27) rfl) aw_441 aw_20 (by decide +kernel) ⟨Nat.le_of_ble_eq_true rfl, Nat.le_of_ble_eq_true rfl⟩ rfl (Nat.le_of_ble_eq_true rfl) ⟨Nat.le_of_ble_eq_true rfl, Nat.le_of_ble_eq_true rfl⟩ dX7_last_48 ?_
        intro M2706 h
        refine j_aload_n X 1 rfl rfl dX7_last_51 ?_
        refine j_get X cl_0.1 (wE_7 _ cl_0.2) rfl awF7 2 (by decide) aw_21 rfl (v := .ref (ad 49)) rfl dX7_last_52 ?_
        refine j_callVNI X (nn := 0) (As := []) (st := []) (ci := 0) cl_49.1 (wE_0 _ cl_49.2) rfl aw_466 aw_467 (x_X0_setEnded l D y ad 49 cl_49 _ _ h) (List.mem_of_getElem? (i := 35) rfl) aw_468 aw_20 (by decide +kernel) ⟨Nat.le_of_ble_eq_true rfl, Nat.le_of_ble_eq_true rfl⟩ rfl (Nat.le_of_ble_eq_true rfl) ⟨Nat.le_of_ble_eq_true rfl, Nat.le_of_ble_eq_true rfl⟩ dX7_last_55 ?_
        intro r2707 M2707 h
        refine j_iload X 0 rfl dX7_last_58 ?_
        refine j_iconst X (v := (-1)) (by decide) dX7_last_60 ?_
        refine j_ixor X dX7_last_61 ?_
        refine j_iand X dX7_last_62 ?_
        refine j_istore X [(6, .int (r2707 &&& (r2705 ^^^ (-1)))), (5, .int r2705), (0, .ref (ad 0)), (1, .int i1), (2, .int i2), (3, .int i3), (4, .int i4)] (by decide) rfl dX7_last_63 ?_
        refine j_iload X 0 rfl dX7_last_65 ?_
        refine j_if_eq X 79 (by decide) dX7_last_67 (fun q_2708 => ?_) (fun q_2708 => ?_)
        · replace h := h.1 q_2708
          refine j_iinc X (v := (i4 + 1)) 6 [(4, .int (i4 + 1)), (6, .int (r2707 &&& (r2705 ^^^ (-1)))), (5, .int r2705), (0, .ref (ad 0)), (1, .int i1), (2, .int i2), (3, .int i3)] rfl rfl (by decide) rfl dX7_last_79 ?_
          refine j_goto X 27 (by decide) dX7_last_82 ?_
          refine j_lv (lv1 := [(0, .ref (ad 0)), (1, .int i1), (2, .int i2), (3, .int i3), (4, .int (i4 + 1))]) [3, 4, 5, 6, 0] rfl ?_
          exact hB27 _ _ _ _ h
        · replace h := h.2 q_2708
          refine j_iload X 0 rfl dX7_last_70 ?_
          refine j_callSI X (nn := 1) (As := [.int (r2707 &&& (r2705 ^^^ (-1)))]) (st := []) aw_664 (x_X7_greatestOf l D y ad (r2707 &&& (r2705 ^^^ (-1))) _ _ h) aw_663 aw_665 aw_2 (by decide +kernel) ⟨Nat.le_of_ble_eq_true rfl, Nat.le_of_ble_eq_true rfl⟩ rfl (Nat.le_of_ble_eq_true rfl) ⟨Nat.le_of_ble_eq_true rfl, Nat.le_of_ble_eq_true rfl⟩ dX7_last_72 ?_
          intro r2709 M2709 h
          refine j_istore_n X [(2, .int r2709), (6, .int (r2707 &&& (r2705 ^^^ (-1)))), (5, .int r2705), (0, .ref (ad 0)), (1, .int i1), (3, .int i3), (4, .int i4)] rfl (by decide) rfl dX7_last_75 ?_
          refine j_iload X 6 rfl dX7_last_76 ?_
          refine j_istore_n X [(3, .int i4), (2, .int r2709), (6, .int (r2707 &&& (r2705 ^^^ (-1)))), (5, .int r2705), (0, .ref (ad 0)), (1, .int i1), (4, .int i4)] rfl (by decide) rfl dX7_last_78 ?_
          refine j_iinc X (v := (i4 + 1)) 6 [(4, .int (i4 + 1)), (3, .int i4), (2, .int r2709), (6, .int (r2707 &&& (r2705 ^^^ (-1)))), (5, .int r2705), (0, .ref (ad 0)), (1, .int i1)] rfl rfl (by decide) rfl dX7_last_79 ?_
          refine j_goto X 27 (by decide) dX7_last_82 ?_
          refine j_lv (lv1 := [(0, .ref (ad 0)), (1, .int i1), (2, .int r2709), (3, .int i4), (4, .int (i4 + 1))]) [5, 6, 2, 1, 0] rfl ?_
          exact hB27 _ _ _ _ h
  delta wp_X7_last at h
  refine j_lv (lv1 := [(0, .ref (ad 0)), (1, .int i1)]) [0, 1] rfl ?_
  refine j_iload_n X 1 rfl rfl dX7_last_0 ?_
  refine j_iconst X (v := 0) (by decide) dX7_last_1 ?_
  refine j_iconst X (v := 1) (by decide) dX7_last_2 ?_
  refine j_callSI X (nn := 3) (As := [.int i1, .int 0, .int 1]) (st := []) aw_110 (x_X7_isWithin l D y ad i1 0 1 _ _ h) aw_109 aw_111 aw_2 (by decide +kernel) ⟨Nat.le_of_ble_eq_true rfl, Nat.le_of_ble_eq_true rfl⟩ rfl (Nat.le_of_ble_eq_true rfl) ⟨Nat.le_of_ble_eq_true rfl, Nat.le_of_ble_eq_true rfl⟩ dX7_last_3 ?_
  intro r1 M1 h
  refine j_if_ne X 16 (by decide) dX7_last_6 (fun q_2 => ?_) (fun q_2 => ?_)
  · replace h := h.1 q_2
    refine j_aload_n X 0 rfl rfl dX7_last_16 ?_
    refine j_callVV X (nn := 0) (As := []) (st := []) (ci := 7) cl_0.1 (wE_7 _ cl_0.2) rfl aw_534 aw_535 (x_X7_think l D y ad  _ _ h) aw_533 aw_536 aw_2 (by decide +kernel) ⟨Nat.le_of_ble_eq_true rfl, Nat.le_of_ble_eq_true rfl⟩ rfl (Nat.le_of_ble_eq_true rfl) ⟨Nat.le_of_ble_eq_true rfl, Nat.le_of_ble_eq_true rfl⟩ dX7_last_17 ?_
    intro M3 h
    refine j_iconst X (v := (-1)) (by decide) dX7_last_20 ?_
    refine j_istore_n X [(2, .int (-1)), (0, .ref (ad 0)), (1, .int i1)] rfl (by decide) rfl dX7_last_21 ?_
    refine j_iconst X (v := 0) (by decide) dX7_last_22 ?_
    refine j_istore_n X [(3, .int 0), (2, .int (-1)), (0, .ref (ad 0)), (1, .int i1)] rfl (by decide) rfl dX7_last_23 ?_
    refine j_iconst X (v := 1) (by decide) dX7_last_24 ?_
    refine j_istore X [(4, .int 1), (3, .int 0), (2, .int (-1)), (0, .ref (ad 0)), (1, .int i1)] (by decide) rfl dX7_last_25 ?_
    refine j_lv (lv1 := [(0, .ref (ad 0)), (1, .int i1), (2, .int (-1)), (3, .int 0), (4, .int 1)]) [3, 4, 2, 1, 0] rfl ?_
    obtain ⟨n27, h⟩ := h
    exact hL27 _   n27 _ _ _ _ h
  · replace h := h.2 q_2
    refine j_aload_n X 0 rfl rfl dX7_last_9 ?_
    refine j_ldc X (v := (-1000000001)) aw_108 dX7_last_10 ?_
    refine j_callVI X (nn := 1) (As := [.int (-1000000001)]) (st := []) (ci := 7) cl_0.1 (wE_7 _ cl_0.2) rfl aw_117 aw_118 (x_X7_refuse l D y ad (-1000000001) _ _ h) aw_116 aw_119 aw_2 (by decide +kernel) ⟨Nat.le_of_ble_eq_true rfl, Nat.le_of_ble_eq_true rfl⟩ rfl (Nat.le_of_ble_eq_true rfl) ⟨Nat.le_of_ble_eq_true rfl, Nat.le_of_ble_eq_true rfl⟩ dX7_last_12 ?_
    intro r4 M4 h
    exact j_iret X hr hlocks dX7_last_15 h
theorem dX7_sharp_27 : decode cX7_sharp 27 = .ok (.iload_n 3, 1) := dk_29 (by decide +kernel)
theorem dX7_sharp_28 : decode cX7_sharp 28 = .ok (.bipush 99, 2) := dk_16 (by decide +kernel)
theorem dX7_sharp_30 : decode cX7_sharp 30 = .ok (.if_icmp .gt 37, 3) := dk_163 (by decide +kernel)
theorem dX7_sharp_67 : decode cX7_sharp 67 = .ok (.aload_n 0, 1) := dk_42 (by decide +kernel)
theorem dX7_sharp_68 : decode cX7_sharp 68 = .ok (.ldc 197, 2) := dk_18 (by decide +kernel)
theorem dX7_sharp_70 : decode cX7_sharp 70 = .ok (.invokevirtual 69, 3) := dk_182 (by decide +kernel)
theorem dX7_sharp_73 : decode cX7_sharp 73 = .ok (.ireturn, 1) := dk_172 (by decide +kernel)
theorem dX7_sharp_33 : decode cX7_sharp 33 = .ok (.aload_n 0, 1) := dk_42 (by decide +kernel)
theorem dX7_sharp_34 : decode cX7_sharp 34 = .ok (.invokevirtual 191, 3) := dk_182 (by decide +kernel)
theorem dX7_sharp_37 : decode cX7_sharp 37 = .ok (.aload_n 0, 1) := dk_42 (by decide +kernel)
theorem dX7_sharp_38 : decode cX7_sharp 38 = .ok (.getfield 31, 3) := dk_180 (by decide +kernel)
theorem dX7_sharp_41 : decode cX7_sharp 41 = .ok (.getfield 91, 3) := dk_180 (by decide +kernel)
theorem dX7_sharp_44 : decode cX7_sharp 44 = .ok (.iload_n 1, 1) := dk_27 (by decide +kernel)
theorem dX7_sharp_45 : decode cX7_sharp 45 = .ok (.aaload, 1) := dk_50 (by decide +kernel)
theorem dX7_sharp_46 : decode cX7_sharp 46 = .ok (.iload_n 3, 1) := dk_29 (by decide +kernel)
theorem dX7_sharp_47 : decode cX7_sharp 47 = .ok (.putfield 104, 3) := dk_181 (by decide +kernel)
theorem dX7_sharp_50 : decode cX7_sharp 50 = .ok (.aload_n 0, 1) := dk_42 (by decide +kernel)
theorem dX7_sharp_51 : decode cX7_sharp 51 = .ok (.iload_n 1, 1) := dk_27 (by decide +kernel)
theorem dX7_sharp_52 : decode cX7_sharp 52 = .ok (.iload_n 2, 1) := dk_28 (by decide +kernel)
theorem dX7_sharp_53 : decode cX7_sharp 53 = .ok (.invokevirtual 215, 3) := dk_182 (by decide +kernel)
theorem dX7_sharp_56 : decode cX7_sharp 56 = .ok (.ifCond .eq 5, 3) := dk_153 (by decide +kernel)
theorem dX7_sharp_61 : decode cX7_sharp 61 = .ok (.iinc 3 1, 3) := dk_132 (by decide +kernel)
theorem dX7_sharp_64 : decode cX7_sharp 64 = .ok (.goto (-37), 3) := dk_167 (by decide +kernel)
theorem dX7_sharp_59 : decode cX7_sharp 59 = .ok (.iload_n 3, 1) := dk_29 (by decide +kernel)
theorem dX7_sharp_60 : decode cX7_sharp 60 = .ok (.ireturn, 1) := dk_172 (by decide +kernel)
theorem dX7_sharp_0 : decode cX7_sharp 0 = .ok (.aload_n 0, 1) := dk_42 (by decide +kernel)
theorem dX7_sharp_1 : decode cX7_sharp 1 = .ok (.iload_n 1, 1) := dk_27 (by decide +kernel)
theorem dX7_sharp_2 : decode cX7_sharp 2 = .ok (.invokevirtual 117, 3) := dk_182 (by decide +kernel)
theorem dX7_sharp_5 : decode cX7_sharp 5 = .ok (.ifCond .eq 13, 3) := dk_153 (by decide +kernel)
theorem dX7_sharp_18 : decode cX7_sharp 18 = .ok (.aload_n 0, 1) := dk_42 (by decide +kernel)
theorem dX7_sharp_19 : decode cX7_sharp 19 = .ok (.ldc 68, 2) := dk_18 (by decide +kernel)
theorem dX7_sharp_21 : decode cX7_sharp 21 = .ok (.invokevirtual 69, 3) := dk_182 (by decide +kernel)
theorem dX7_sharp_24 : decode cX7_sharp 24 = .ok (.ireturn, 1) := dk_172 (by decide +kernel)
theorem dX7_sharp_8 : decode cX7_sharp 8 = .ok (.iload_n 2, 1) := dk_28 (by decide +kernel)
theorem dX7_sharp_9 : decode cX7_sharp 9 = .ok (.iconst 1, 1) := dk_4 (by decide +kernel)
theorem dX7_sharp_10 : decode cX7_sharp 10 = .ok (.bipush 60, 2) := dk_16 (by decide +kernel)
theorem dX7_sharp_12 : decode cX7_sharp 12 = .ok (.invokestatic 60, 3) := dk_184 (by decide +kernel)
theorem dX7_sharp_15 : decode cX7_sharp 15 = .ok (.ifCond .ne 10, 3) := dk_154 (by decide +kernel)
theorem dX7_sharp_25 : decode cX7_sharp 25 = .ok (.iconst 0, 1) := dk_3 (by decide +kernel)
theorem dX7_sharp_26 : decode cX7_sharp 26 = .ok (.istore_n 3, 1) := dk_62 (by decide +kernel)
set_option maxRecDepth 100000 in
set_option maxHeartbeats 8000000 in
theorem x_X7_sharp (l : Launch) (D : va_G) (y : wY) (ad : Nat → Nat) (i1 : Int32) (i2 : Int32) (M : Mem) (K : Int32 → Mem → Prop) (h : wp_X7_sharp i1 i2 M K) : MI l D y ad yX7_sharp (Cond.code yX7_sharp cX7_sharp 4 (some .int)) 7 M [.ref (ad 0), .int i1, .int i2] K := by
  refine MI_of (by decide) (Nat.le_of_ble_eq_true rfl) ?_
  intro p e s m args below meth c X hr hlocks
  have hL27 : ∀ (i1 : Int32) (i2 : Int32) (n : Nat) (i3 : Int32) (Mb : Mem), wp_X7_sharp_L27 K i1 i2 n i3 Mb → J p l e (rmN 7) s m args below meth c 0 0 (QI K D y ad M s args below) D y ad (va_A (PL y ad M) s.heap.size) 4 Mb 27 [(0, .ref (ad 0)), (1, .int i1), (2, .int i2), (3, .int i3)] [] := by
    intro i1 i2 n
    induction n with
    | zero => intro i3 Mb h; exact False.elim h
    | succ n hB27 =>
      intro i3 Mb h
      replace h : wp_X7_sharp_l27 K i1 i2 (wp_X7_sharp_L27 K i1 i2 n) i3 Mb := h
      delta wp_X7_sharp_l27 at h
      refine j_iload_n X 3 rfl rfl dX7_sharp_27 ?_
      refine j_bipush X (v := 99) (by decide) dX7_sharp_28 ?_
      refine j_icmp_gt X 67 (by decide) dX7_sharp_30 (fun q_2701 => ?_) (fun q_2701 => ?_)
      · replace h := h.1 q_2701
        refine j_aload_n X 0 rfl rfl dX7_sharp_67 ?_
        refine j_ldc X (v := (-1000000002)) aw_560 dX7_sharp_68 ?_
        refine j_callVI X (nn := 1) (As := [.int (-1000000002)]) (st := []) (ci := 7) cl_0.1 (wE_7 _ cl_0.2) rfl aw_117 aw_118 (x_X7_refuse l D y ad (-1000000002) _ _ h) aw_116 aw_119 aw_2 (by decide +kernel) ⟨Nat.le_of_ble_eq_true rfl, Nat.le_of_ble_eq_true rfl⟩ rfl (Nat.le_of_ble_eq_true rfl) ⟨Nat.le_of_ble_eq_true rfl, Nat.le_of_ble_eq_true rfl⟩ dX7_sharp_70 ?_
        intro r2702 M2702 h
        exact j_iret X hr hlocks dX7_sharp_73 h
      · replace h := h.2 q_2701
        refine j_aload_n X 0 rfl rfl dX7_sharp_33 ?_
        refine j_callVV X (nn := 0) (As := []) (st := []) (ci := 7) cl_0.1 (wE_7 _ cl_0.2) rfl aw_534 aw_535 (x_X7_think l D y ad  _ _ h) aw_533 aw_536 aw_2 (by decide +kernel) ⟨Nat.le_of_ble_eq_true rfl, Nat.le_of_ble_eq_true rfl⟩ rfl (Nat.le_of_ble_eq_true rfl) ⟨Nat.le_of_ble_eq_true rfl, Nat.le_of_ble_eq_true rfl⟩ dX7_sharp_34 ?_
        intro M2703 h
        refine j_aload_n X 0 rfl rfl dX7_sharp_37 ?_
        refine j_get X cl_0.1 (wE_7 _ cl_0.2) rfl awF7 2 (by decide) aw_21 rfl (v := .ref (ad 49)) rfl dX7_sharp_38 ?_
        refine j_getN X cl_49.1 (wE_0 _ cl_49.2) rfl awF0 2 (by decide) (List.mem_of_getElem? (i := 14) rfl) rfl (v := .ref (ad 50)) rfl dX7_sharp_41 ?_
        refine j_iload_n X 1 rfl rfl dX7_sharp_44 ?_
        obtain ⟨hi_2704, h⟩ := h
        refine j_aald10 X cl_50.1 cl_50.2 hi_2704 dX7_sharp_45 ?_
        refine j_eqr (v := (51 + i1.toNatClampNeg)) (re_50 hi_2704) ?_
        have hk_2705 := rc_50 hi_2704
        refine j_iload_n X 3 rfl rfl dX7_sharp_46 ?_
        refine j_putN X (up M2703 (51 + i1.toNatClampNeg) 3 i3) up_o hk_2705.1 (wE_1 _ hk_2705.2) rfl awF1 3 (by decide) (wP_1_3 _ _ hk_2705.2) tyX1 tyX1_ok nmX1 rfl (ty := .int) (by decide +kernel) rfl rfl (Nat.le_of_ble_eq_true rfl) (List.mem_of_getElem? (i := 6) rfl) rfl dX7_sharp_47 ?_
        refine j_aload_n X 0 rfl rfl dX7_sharp_50 ?_
        refine j_iload_n X 1 rfl rfl dX7_sharp_51 ?_
        refine j_iload_n X 2 rfl rfl dX7_sharp_52 ?_
        refine j_callVI X (nn := 2) (As := [.int i1, .int i2]) (st := []) (ci := 7) cl_0.1 (wE_7 _ cl_0.2) rfl aw_610 aw_611 (x_X7_endsInThought l D y ad i1 i2 _ _ h) aw_609 aw_612 aw_2 (by decide +kernel) ⟨Nat.le_of_ble_eq_true rfl, Nat.le_of_ble_eq_true rfl⟩ rfl (Nat.le_of_ble_eq_true rfl) ⟨Nat.le_of_ble_eq_true rfl, Nat.le_of_ble_eq_true rfl⟩ dX7_sharp_53 ?_
        intro r2706 M2706 h
        refine j_if_eq X 61 (by decide) dX7_sharp_56 (fun q_2707 => ?_) (fun q_2707 => ?_)
        · replace h := h.1 q_2707
          refine j_iinc X (v := (i3 + 1)) 3 [(3, .int (i3 + 1)), (0, .ref (ad 0)), (1, .int i1), (2, .int i2)] rfl rfl (by decide) rfl dX7_sharp_61 ?_
          refine j_goto X 27 (by decide) dX7_sharp_64 ?_
          refine j_lv (lv1 := [(0, .ref (ad 0)), (1, .int i1), (2, .int i2), (3, .int (i3 + 1))]) [1, 2, 3, 0] rfl ?_
          exact hB27 _ _ h
        · replace h := h.2 q_2707
          refine j_iload_n X 3 rfl rfl dX7_sharp_59 ?_
          exact j_iret X hr hlocks dX7_sharp_60 h
  delta wp_X7_sharp at h
  refine j_lv (lv1 := [(0, .ref (ad 0)), (1, .int i1), (2, .int i2)]) [0, 1, 2] rfl ?_
  refine j_aload_n X 0 rfl rfl dX7_sharp_0 ?_
  refine j_iload_n X 1 rfl rfl dX7_sharp_1 ?_
  refine j_callVI X (nn := 1) (As := [.int i1]) (st := []) (ci := 7) cl_0.1 (wE_7 _ cl_0.2) rfl aw_191 aw_192 (x_X7_isQuarrel l D y ad i1 _ _ h) aw_190 aw_193 aw_2 (by decide +kernel) ⟨Nat.le_of_ble_eq_true rfl, Nat.le_of_ble_eq_true rfl⟩ rfl (Nat.le_of_ble_eq_true rfl) ⟨Nat.le_of_ble_eq_true rfl, Nat.le_of_ble_eq_true rfl⟩ dX7_sharp_2 ?_
  intro r1 M1 h
  refine j_if_eq X 18 (by decide) dX7_sharp_5 (fun q_2 => ?_) (fun q_2 => ?_)
  · replace h := h.1 q_2
    refine j_aload_n X 0 rfl rfl dX7_sharp_18 ?_
    refine j_ldc X (v := (-1000000001)) aw_108 dX7_sharp_19 ?_
    refine j_callVI X (nn := 1) (As := [.int (-1000000001)]) (st := []) (ci := 7) cl_0.1 (wE_7 _ cl_0.2) rfl aw_117 aw_118 (x_X7_refuse l D y ad (-1000000001) _ _ h) aw_116 aw_119 aw_2 (by decide +kernel) ⟨Nat.le_of_ble_eq_true rfl, Nat.le_of_ble_eq_true rfl⟩ rfl (Nat.le_of_ble_eq_true rfl) ⟨Nat.le_of_ble_eq_true rfl, Nat.le_of_ble_eq_true rfl⟩ dX7_sharp_21 ?_
    intro r3 M3 h
    exact j_iret X hr hlocks dX7_sharp_24 h
  · replace h := h.2 q_2
    refine j_iload_n X 2 rfl rfl dX7_sharp_8 ?_
    refine j_iconst X (v := 1) (by decide) dX7_sharp_9 ?_
    refine j_bipush X (v := 60) (by decide) dX7_sharp_10 ?_
    refine j_callSI X (nn := 3) (As := [.int i2, .int 1, .int 60]) (st := []) aw_110 (x_X7_isWithin l D y ad i2 1 60 _ _ h) aw_109 aw_111 aw_2 (by decide +kernel) ⟨Nat.le_of_ble_eq_true rfl, Nat.le_of_ble_eq_true rfl⟩ rfl (Nat.le_of_ble_eq_true rfl) ⟨Nat.le_of_ble_eq_true rfl, Nat.le_of_ble_eq_true rfl⟩ dX7_sharp_12 ?_
    intro r4 M4 h
    refine j_if_ne X 25 (by decide) dX7_sharp_15 (fun q_5 => ?_) (fun q_5 => ?_)
    · replace h := h.1 q_5
      refine j_iconst X (v := 0) (by decide) dX7_sharp_25 ?_
      refine j_istore_n X [(3, .int 0), (0, .ref (ad 0)), (1, .int i1), (2, .int i2)] rfl (by decide) rfl dX7_sharp_26 ?_
      refine j_lv (lv1 := [(0, .ref (ad 0)), (1, .int i1), (2, .int i2), (3, .int 0)]) [1, 2, 3, 0] rfl ?_
      obtain ⟨n27, h⟩ := h
      exact hL27 _ _   n27 _ _ h
    · replace h := h.2 q_5
      refine j_aload_n X 0 rfl rfl dX7_sharp_18 ?_
      refine j_ldc X (v := (-1000000001)) aw_108 dX7_sharp_19 ?_
      refine j_callVI X (nn := 1) (As := [.int (-1000000001)]) (st := []) (ci := 7) cl_0.1 (wE_7 _ cl_0.2) rfl aw_117 aw_118 (x_X7_refuse l D y ad (-1000000001) _ _ h) aw_116 aw_119 aw_2 (by decide +kernel) ⟨Nat.le_of_ble_eq_true rfl, Nat.le_of_ble_eq_true rfl⟩ rfl (Nat.le_of_ble_eq_true rfl) ⟨Nat.le_of_ble_eq_true rfl, Nat.le_of_ble_eq_true rfl⟩ dX7_sharp_21 ?_
      intro r6 M6 h
      exact j_iret X hr hlocks dX7_sharp_24 h
theorem dX7_off_0 : decode cX7_off 0 = .ok (.iload_n 1, 1) := dk_27 (by decide +kernel)
theorem dX7_off_1 : decode cX7_off 1 = .ok (.iconst 0, 1) := dk_3 (by decide +kernel)
theorem dX7_off_2 : decode cX7_off 2 = .ok (.bipush 60, 2) := dk_16 (by decide +kernel)
theorem dX7_off_4 : decode cX7_off 4 = .ok (.invokestatic 60, 3) := dk_184 (by decide +kernel)
theorem dX7_off_7 : decode cX7_off 7 = .ok (.ifCond .ne 10, 3) := dk_154 (by decide +kernel)
theorem dX7_off_17 : decode cX7_off 17 = .ok (.aload_n 0, 1) := dk_42 (by decide +kernel)
theorem dX7_off_18 : decode cX7_off 18 = .ok (.invokevirtual 191, 3) := dk_182 (by decide +kernel)
theorem dX7_off_21 : decode cX7_off 21 = .ok (.aload_n 0, 1) := dk_42 (by decide +kernel)
theorem dX7_off_22 : decode cX7_off 22 = .ok (.iload_n 1, 1) := dk_27 (by decide +kernel)
theorem dX7_off_23 : decode cX7_off 23 = .ok (.invokevirtual 219, 3) := dk_182 (by decide +kernel)
theorem dX7_off_26 : decode cX7_off 26 = .ok (.aload_n 0, 1) := dk_42 (by decide +kernel)
theorem dX7_off_27 : decode cX7_off 27 = .ok (.getfield 31, 3) := dk_180 (by decide +kernel)
theorem dX7_off_30 : decode cX7_off 30 = .ok (.getfield 222, 3) := dk_180 (by decide +kernel)
theorem dX7_off_33 : decode cX7_off 33 = .ok (.istore_n 2, 1) := dk_61 (by decide +kernel)
theorem dX7_off_34 : decode cX7_off 34 = .ok (.aload_n 0, 1) := dk_42 (by decide +kernel)
theorem dX7_off_35 : decode cX7_off 35 = .ok (.invokevirtual 191, 3) := dk_182 (by decide +kernel)
theorem dX7_off_38 : decode cX7_off 38 = .ok (.iload_n 1, 1) := dk_27 (by decide +kernel)
theorem dX7_off_39 : decode cX7_off 39 = .ok (.ifCond .le 18, 3) := dk_158 (by decide +kernel)
theorem dX7_off_57 : decode cX7_off 57 = .ok (.aload_n 0, 1) := dk_42 (by decide +kernel)
theorem dX7_off_58 : decode cX7_off 58 = .ok (.getfield 31, 3) := dk_180 (by decide +kernel)
theorem dX7_off_61 : decode cX7_off 61 = .ok (.getfield 222, 3) := dk_180 (by decide +kernel)
theorem dX7_off_64 : decode cX7_off 64 = .ok (.iload_n 2, 1) := dk_28 (by decide +kernel)
theorem dX7_off_65 : decode cX7_off 65 = .ok (.isub, 1) := dk_100 (by decide +kernel)
theorem dX7_off_66 : decode cX7_off 66 = .ok (.ireturn, 1) := dk_172 (by decide +kernel)
theorem dX7_off_42 : decode cX7_off 42 = .ok (.aload_n 0, 1) := dk_42 (by decide +kernel)
theorem dX7_off_43 : decode cX7_off 43 = .ok (.getfield 31, 3) := dk_180 (by decide +kernel)
theorem dX7_off_46 : decode cX7_off 46 = .ok (.iconst 1, 1) := dk_4 (by decide +kernel)
theorem dX7_off_47 : decode cX7_off 47 = .ok (.invokevirtual 240, 3) := dk_182 (by decide +kernel)
theorem dX7_off_50 : decode cX7_off 50 = .ok (.aload_n 0, 1) := dk_42 (by decide +kernel)
theorem dX7_off_51 : decode cX7_off 51 = .ok (.iload_n 1, 1) := dk_27 (by decide +kernel)
theorem dX7_off_52 : decode cX7_off 52 = .ok (.iconst 1, 1) := dk_4 (by decide +kernel)
theorem dX7_off_53 : decode cX7_off 53 = .ok (.isub, 1) := dk_100 (by decide +kernel)
theorem dX7_off_54 : decode cX7_off 54 = .ok (.invokevirtual 219, 3) := dk_182 (by decide +kernel)
theorem dX7_off_10 : decode cX7_off 10 = .ok (.aload_n 0, 1) := dk_42 (by decide +kernel)
theorem dX7_off_11 : decode cX7_off 11 = .ok (.ldc 68, 2) := dk_18 (by decide +kernel)
theorem dX7_off_13 : decode cX7_off 13 = .ok (.invokevirtual 69, 3) := dk_182 (by decide +kernel)
theorem dX7_off_16 : decode cX7_off 16 = .ok (.ireturn, 1) := dk_172 (by decide +kernel)
set_option maxRecDepth 100000 in
set_option maxHeartbeats 8000000 in
theorem x_X7_off (l : Launch) (D : va_G) (y : wY) (ad : Nat → Nat) (i1 : Int32) (M : Mem) (K : Int32 → Mem → Prop) (h : wp_X7_off i1 M K) : MI l D y ad yX7_off (Cond.code yX7_off cX7_off 3 (some .int)) 7 M [.ref (ad 0), .int i1] K := by
  refine MI_of (by decide) (Nat.le_of_ble_eq_true rfl) ?_
  intro p e s m args below meth c X hr hlocks
  delta wp_X7_off at h
  refine j_lv (lv1 := [(0, .ref (ad 0)), (1, .int i1)]) [0, 1] rfl ?_
  refine j_iload_n X 1 rfl rfl dX7_off_0 ?_
  refine j_iconst X (v := 0) (by decide) dX7_off_1 ?_
  refine j_bipush X (v := 60) (by decide) dX7_off_2 ?_
  refine j_callSI X (nn := 3) (As := [.int i1, .int 0, .int 60]) (st := []) aw_110 (x_X7_isWithin l D y ad i1 0 60 _ _ h) aw_109 aw_111 aw_2 (by decide +kernel) ⟨Nat.le_of_ble_eq_true rfl, Nat.le_of_ble_eq_true rfl⟩ rfl (Nat.le_of_ble_eq_true rfl) ⟨Nat.le_of_ble_eq_true rfl, Nat.le_of_ble_eq_true rfl⟩ dX7_off_4 ?_
  intro r1 M1 h
  refine j_if_ne X 17 (by decide) dX7_off_7 (fun q_2 => ?_) (fun q_2 => ?_)
  · replace h := h.1 q_2
    refine j_aload_n X 0 rfl rfl dX7_off_17 ?_
    refine j_callVV X (nn := 0) (As := []) (st := []) (ci := 7) cl_0.1 (wE_7 _ cl_0.2) rfl aw_534 aw_535 (x_X7_think l D y ad  _ _ h) aw_533 aw_536 aw_2 (by decide +kernel) ⟨Nat.le_of_ble_eq_true rfl, Nat.le_of_ble_eq_true rfl⟩ rfl (Nat.le_of_ble_eq_true rfl) ⟨Nat.le_of_ble_eq_true rfl, Nat.le_of_ble_eq_true rfl⟩ dX7_off_18 ?_
    intro M3 h
    refine j_aload_n X 0 rfl rfl dX7_off_21 ?_
    refine j_iload_n X 1 rfl rfl dX7_off_22 ?_
    refine j_callVV X (nn := 1) (As := [.int i1]) (st := []) (ci := 7) cl_0.1 (wE_7 _ cl_0.2) rfl aw_626 aw_627 (x_X7_thinkDaysWithHarm l D y ad i1 _ _ h) aw_625 aw_628 aw_2 (by decide +kernel) ⟨Nat.le_of_ble_eq_true rfl, Nat.le_of_ble_eq_true rfl⟩ rfl (Nat.le_of_ble_eq_true rfl) ⟨Nat.le_of_ble_eq_true rfl, Nat.le_of_ble_eq_true rfl⟩ dX7_off_23 ?_
    intro M4 h
    refine j_aload_n X 0 rfl rfl dX7_off_26 ?_
    refine j_get X cl_0.1 (wE_7 _ cl_0.2) rfl awF7 2 (by decide) aw_21 rfl (v := .ref (ad 49)) rfl dX7_off_27 ?_
    refine j_getN X cl_49.1 (wE_0 _ cl_49.2) rfl awF0 7 (by decide) (List.mem_of_getElem? (i := 19) rfl) rfl (v := .int (M4 49 7)) rfl dX7_off_30 ?_
    refine j_istore_n X [(2, .int (M4 49 7)), (0, .ref (ad 0)), (1, .int i1)] rfl (by decide) rfl dX7_off_33 ?_
    refine j_aload_n X 1 rfl rfl dX7_off_34 ?_
    refine j_callVV X (nn := 0) (As := []) (st := []) (ci := 7) cl_0.1 (wE_7 _ cl_0.2) rfl aw_534 aw_535 (x_X7_think l D y ad  _ _ h) aw_533 aw_536 aw_2 (by decide +kernel) ⟨Nat.le_of_ble_eq_true rfl, Nat.le_of_ble_eq_true rfl⟩ rfl (Nat.le_of_ble_eq_true rfl) ⟨Nat.le_of_ble_eq_true rfl, Nat.le_of_ble_eq_true rfl⟩ dX7_off_35 ?_
    intro M5 h
    refine j_iload_n X 2 rfl rfl dX7_off_38 ?_
    refine j_if_le X 57 (by decide) dX7_off_39 (fun q_6 => ?_) (fun q_6 => ?_)
    · replace h := h.1 q_6
      refine j_aload_n X 1 rfl rfl dX7_off_57 ?_
      refine j_get X cl_0.1 (wE_7 _ cl_0.2) rfl awF7 2 (by decide) aw_21 rfl (v := .ref (ad 49)) rfl dX7_off_58 ?_
      refine j_getN X cl_49.1 (wE_0 _ cl_49.2) rfl awF0 7 (by decide) (List.mem_of_getElem? (i := 19) rfl) rfl (v := .int (M5 49 7)) rfl dX7_off_61 ?_
      refine j_iload_n X 0 rfl rfl dX7_off_64 ?_
      refine j_isub X dX7_off_65 ?_
      exact j_iret X hr hlocks dX7_off_66 h
    · replace h := h.2 q_6
      refine j_aload_n X 1 rfl rfl dX7_off_42 ?_
      refine j_get X cl_0.1 (wE_7 _ cl_0.2) rfl awF7 2 (by decide) aw_21 rfl (v := .ref (ad 49)) rfl dX7_off_43 ?_
      refine j_iconst X (v := 1) (by decide) dX7_off_46 ?_
      refine j_callVNV X (nn := 1) (As := [.int 1]) (st := []) (ci := 0) cl_49.1 (wE_0 _ cl_49.2) rfl aw_450 aw_451 (x_X0_restDay l D y ad 49 1 cl_49 _ _ h) (List.mem_of_getElem? (i := 40) rfl) aw_452 aw_20 (by decide +kernel) ⟨Nat.le_of_ble_eq_true rfl, Nat.le_of_ble_eq_true rfl⟩ rfl (Nat.le_of_ble_eq_true rfl) ⟨Nat.le_of_ble_eq_true rfl, Nat.le_of_ble_eq_true rfl⟩ dX7_off_47 ?_
      intro M7 h
      refine j_aload_n X 1 rfl rfl dX7_off_50 ?_
      refine j_iload_n X 2 rfl rfl dX7_off_51 ?_
      refine j_iconst X (v := 1) (by decide) dX7_off_52 ?_
      refine j_isub X dX7_off_53 ?_
      refine j_callVV X (nn := 1) (As := [.int (i1 - 1)]) (st := []) (ci := 7) cl_0.1 (wE_7 _ cl_0.2) rfl aw_626 aw_627 (x_X7_thinkDaysWithHarm l D y ad (i1 - 1) _ _ h) aw_625 aw_628 aw_2 (by decide +kernel) ⟨Nat.le_of_ble_eq_true rfl, Nat.le_of_ble_eq_true rfl⟩ rfl (Nat.le_of_ble_eq_true rfl) ⟨Nat.le_of_ble_eq_true rfl, Nat.le_of_ble_eq_true rfl⟩ dX7_off_54 ?_
      intro M8 h
      refine j_aload_n X 1 rfl rfl dX7_off_57 ?_
      refine j_get X cl_0.1 (wE_7 _ cl_0.2) rfl awF7 2 (by decide) aw_21 rfl (v := .ref (ad 49)) rfl dX7_off_58 ?_
      refine j_getN X cl_49.1 (wE_0 _ cl_49.2) rfl awF0 7 (by decide) (List.mem_of_getElem? (i := 19) rfl) rfl (v := .int (M8 49 7)) rfl dX7_off_61 ?_
      refine j_iload_n X 0 rfl rfl dX7_off_64 ?_
      refine j_isub X dX7_off_65 ?_
      exact j_iret X hr hlocks dX7_off_66 h
  · replace h := h.2 q_2
    refine j_aload_n X 0 rfl rfl dX7_off_10 ?_
    refine j_ldc X (v := (-1000000001)) aw_108 dX7_off_11 ?_
    refine j_callVI X (nn := 1) (As := [.int (-1000000001)]) (st := []) (ci := 7) cl_0.1 (wE_7 _ cl_0.2) rfl aw_117 aw_118 (x_X7_refuse l D y ad (-1000000001) _ _ h) aw_116 aw_119 aw_2 (by decide +kernel) ⟨Nat.le_of_ble_eq_true rfl, Nat.le_of_ble_eq_true rfl⟩ rfl (Nat.le_of_ble_eq_true rfl) ⟨Nat.le_of_ble_eq_true rfl, Nat.le_of_ble_eq_true rfl⟩ dX7_off_13 ?_
    intro r9 M9 h
    exact j_iret X hr hlocks dX7_off_16 h
theorem dX7_chain_0 : decode cX7_chain 0 = .ok (.aload_n 0, 1) := dk_42 (by decide +kernel)
theorem dX7_chain_1 : decode cX7_chain 1 = .ok (.iload_n 1, 1) := dk_27 (by decide +kernel)
theorem dX7_chain_2 : decode cX7_chain 2 = .ok (.invokevirtual 117, 3) := dk_182 (by decide +kernel)
theorem dX7_chain_5 : decode cX7_chain 5 = .ok (.ifCond .ne 10, 3) := dk_154 (by decide +kernel)
theorem dX7_chain_15 : decode cX7_chain 15 = .ok (.aload_n 0, 1) := dk_42 (by decide +kernel)
theorem dX7_chain_16 : decode cX7_chain 16 = .ok (.getfield 12, 3) := dk_180 (by decide +kernel)
theorem dX7_chain_19 : decode cX7_chain 19 = .ok (.getfield 72, 3) := dk_180 (by decide +kernel)
theorem dX7_chain_22 : decode cX7_chain 22 = .ok (.iload_n 1, 1) := dk_27 (by decide +kernel)
theorem dX7_chain_23 : decode cX7_chain 23 = .ok (.invokevirtual 243, 3) := dk_182 (by decide +kernel)
theorem dX7_chain_26 : decode cX7_chain 26 = .ok (.aload_n 0, 1) := dk_42 (by decide +kernel)
theorem dX7_chain_27 : decode cX7_chain 27 = .ok (.getfield 12, 3) := dk_180 (by decide +kernel)
theorem dX7_chain_30 : decode cX7_chain 30 = .ok (.getfield 72, 3) := dk_180 (by decide +kernel)
theorem dX7_chain_33 : decode cX7_chain 33 = .ok (.invokevirtual 198, 3) := dk_182 (by decide +kernel)
theorem dX7_chain_36 : decode cX7_chain 36 = .ok (.iconst (-1), 1) := dk_2 (by decide +kernel)
theorem dX7_chain_37 : decode cX7_chain 37 = .ok (.ixor, 1) := dk_130 (by decide +kernel)
theorem dX7_chain_38 : decode cX7_chain 38 = .ok (.iand, 1) := dk_126 (by decide +kernel)
theorem dX7_chain_39 : decode cX7_chain 39 = .ok (.ireturn, 1) := dk_172 (by decide +kernel)
theorem dX7_chain_8 : decode cX7_chain 8 = .ok (.aload_n 0, 1) := dk_42 (by decide +kernel)
theorem dX7_chain_9 : decode cX7_chain 9 = .ok (.ldc 68, 2) := dk_18 (by decide +kernel)
theorem dX7_chain_11 : decode cX7_chain 11 = .ok (.invokevirtual 69, 3) := dk_182 (by decide +kernel)
theorem dX7_chain_14 : decode cX7_chain 14 = .ok (.ireturn, 1) := dk_172 (by decide +kernel)
set_option maxRecDepth 100000 in
set_option maxHeartbeats 8000000 in
theorem x_X7_chain (l : Launch) (D : va_G) (y : wY) (ad : Nat → Nat) (i1 : Int32) (M : Mem) (K : Int32 → Mem → Prop) (h : wp_X7_chain i1 M K) : MI l D y ad yX7_chain (Cond.code yX7_chain cX7_chain 2 (some .int)) 2 M [.ref (ad 0), .int i1] K := by
  refine MI_of (by decide) (Nat.le_of_ble_eq_true rfl) ?_
  intro p e s m args below meth c X hr hlocks
  delta wp_X7_chain at h
  refine j_lv (lv1 := [(0, .ref (ad 0)), (1, .int i1)]) [0, 1] rfl ?_
  refine j_aload_n X 0 rfl rfl dX7_chain_0 ?_
  refine j_iload_n X 1 rfl rfl dX7_chain_1 ?_
  refine j_callVI X (nn := 1) (As := [.int i1]) (st := []) (ci := 7) cl_0.1 (wE_7 _ cl_0.2) rfl aw_191 aw_192 (x_X7_isQuarrel l D y ad i1 _ _ h) aw_190 aw_193 aw_2 (by decide +kernel) ⟨Nat.le_of_ble_eq_true rfl, Nat.le_of_ble_eq_true rfl⟩ rfl (Nat.le_of_ble_eq_true rfl) ⟨Nat.le_of_ble_eq_true rfl, Nat.le_of_ble_eq_true rfl⟩ dX7_chain_2 ?_
  intro r1 M1 h
  refine j_if_ne X 15 (by decide) dX7_chain_5 (fun q_2 => ?_) (fun q_2 => ?_)
  · replace h := h.1 q_2
    refine j_aload_n X 0 rfl rfl dX7_chain_15 ?_
    refine j_get X cl_0.1 (wE_7 _ cl_0.2) rfl awF7 0 (by decide) aw_16 rfl (v := .ref (ad 1)) rfl dX7_chain_16 ?_
    refine j_getN X cl_1.1 (wE_6 _ cl_1.2) rfl awF6 2 (by decide) (List.mem_of_getElem? (i := 23) rfl) rfl (v := .ref (ad 12)) rfl dX7_chain_19 ?_
    refine j_iload_n X 1 rfl rfl dX7_chain_22 ?_
    refine j_callVNI X (nn := 1) (As := [.int i1]) (st := []) (ci := 0) cl_12.1 (wE_0 _ cl_12.2) rfl aw_690 aw_691 (x_X0_setHangingOn l D y ad 12 i1 cl_12 _ _ h) (List.mem_of_getElem? (i := 41) rfl) aw_692 aw_20 (by decide +kernel) ⟨Nat.le_of_ble_eq_true rfl, Nat.le_of_ble_eq_true rfl⟩ rfl (Nat.le_of_ble_eq_true rfl) ⟨Nat.le_of_ble_eq_true rfl, Nat.le_of_ble_eq_true rfl⟩ dX7_chain_23 ?_
    intro r3 M3 h
    refine j_aload_n X 0 rfl rfl dX7_chain_26 ?_
    refine j_get X cl_0.1 (wE_7 _ cl_0.2) rfl awF7 0 (by decide) aw_16 rfl (v := .ref (ad 1)) rfl dX7_chain_27 ?_
    refine j_getN X cl_1.1 (wE_6 _ cl_1.2) rfl awF6 2 (by decide) (List.mem_of_getElem? (i := 23) rfl) rfl (v := .ref (ad 12)) rfl dX7_chain_30 ?_
    refine j_callVNI X (nn := 0) (As := []) (st := [.int r3]) (ci := 0) cl_12.1 (wE_0 _ cl_12.2) rfl aw_466 aw_467 (x_X0_setEnded l D y ad 12 cl_12 _ _ h) (List.mem_of_getElem? (i := 35) rfl) aw_468 aw_20 (by decide +kernel) ⟨Nat.le_of_ble_eq_true rfl, Nat.le_of_ble_eq_true rfl⟩ rfl (Nat.le_of_ble_eq_true rfl) ⟨Nat.le_of_ble_eq_true rfl, Nat.le_of_ble_eq_true rfl⟩ dX7_chain_33 ?_
    intro r4 M4 h
    refine j_iconst X (v := (-1)) (by decide) dX7_chain_36 ?_
    refine j_ixor X dX7_chain_37 ?_
    refine j_iand X dX7_chain_38 ?_
    exact j_iret X hr hlocks dX7_chain_39 h
  · replace h := h.2 q_2
    refine j_aload_n X 0 rfl rfl dX7_chain_8 ?_
    refine j_ldc X (v := (-1000000001)) aw_108 dX7_chain_9 ?_
    refine j_callVI X (nn := 1) (As := [.int (-1000000001)]) (st := []) (ci := 7) cl_0.1 (wE_7 _ cl_0.2) rfl aw_117 aw_118 (x_X7_refuse l D y ad (-1000000001) _ _ h) aw_116 aw_119 aw_2 (by decide +kernel) ⟨Nat.le_of_ble_eq_true rfl, Nat.le_of_ble_eq_true rfl⟩ rfl (Nat.le_of_ble_eq_true rfl) ⟨Nat.le_of_ble_eq_true rfl, Nat.le_of_ble_eq_true rfl⟩ dX7_chain_11 ?_
    intro r5 M5 h
    exact j_iret X hr hlocks dX7_chain_14 h
theorem dX7_fee_0 : decode cX7_fee 0 = .ok (.iload_n 1, 1) := dk_27 (by decide +kernel)
theorem dX7_fee_1 : decode cX7_fee 1 = .ok (.iconst 0, 1) := dk_3 (by decide +kernel)
theorem dX7_fee_2 : decode cX7_fee 2 = .ok (.bipush 60, 2) := dk_16 (by decide +kernel)
theorem dX7_fee_4 : decode cX7_fee 4 = .ok (.invokestatic 60, 3) := dk_184 (by decide +kernel)
theorem dX7_fee_7 : decode cX7_fee 7 = .ok (.ifCond .ne 10, 3) := dk_154 (by decide +kernel)
theorem dX7_fee_17 : decode cX7_fee 17 = .ok (.aload_n 0, 1) := dk_42 (by decide +kernel)
theorem dX7_fee_18 : decode cX7_fee 18 = .ok (.invokevirtual 191, 3) := dk_182 (by decide +kernel)
theorem dX7_fee_21 : decode cX7_fee 21 = .ok (.aload_n 0, 1) := dk_42 (by decide +kernel)
theorem dX7_fee_22 : decode cX7_fee 22 = .ok (.iload_n 1, 1) := dk_27 (by decide +kernel)
theorem dX7_fee_23 : decode cX7_fee 23 = .ok (.invokevirtual 194, 3) := dk_182 (by decide +kernel)
theorem dX7_fee_26 : decode cX7_fee 26 = .ok (.aload_n 0, 1) := dk_42 (by decide +kernel)
theorem dX7_fee_27 : decode cX7_fee 27 = .ok (.getfield 31, 3) := dk_180 (by decide +kernel)
theorem dX7_fee_30 : decode cX7_fee 30 = .ok (.getfield 246, 3) := dk_180 (by decide +kernel)
theorem dX7_fee_33 : decode cX7_fee 33 = .ok (.aload_n 0, 1) := dk_42 (by decide +kernel)
theorem dX7_fee_34 : decode cX7_fee 34 = .ok (.getfield 12, 3) := dk_180 (by decide +kernel)
theorem dX7_fee_37 : decode cX7_fee 37 = .ok (.getfield 72, 3) := dk_180 (by decide +kernel)
theorem dX7_fee_40 : decode cX7_fee 40 = .ok (.getfield 246, 3) := dk_180 (by decide +kernel)
theorem dX7_fee_43 : decode cX7_fee 43 = .ok (.isub, 1) := dk_100 (by decide +kernel)
theorem dX7_fee_44 : decode cX7_fee 44 = .ok (.ireturn, 1) := dk_172 (by decide +kernel)
theorem dX7_fee_10 : decode cX7_fee 10 = .ok (.aload_n 0, 1) := dk_42 (by decide +kernel)
theorem dX7_fee_11 : decode cX7_fee 11 = .ok (.ldc 68, 2) := dk_18 (by decide +kernel)
theorem dX7_fee_13 : decode cX7_fee 13 = .ok (.invokevirtual 69, 3) := dk_182 (by decide +kernel)
theorem dX7_fee_16 : decode cX7_fee 16 = .ok (.ireturn, 1) := dk_172 (by decide +kernel)
set_option maxRecDepth 100000 in
set_option maxHeartbeats 8000000 in
theorem x_X7_fee (l : Launch) (D : va_G) (y : wY) (ad : Nat → Nat) (i1 : Int32) (M : Mem) (K : Int32 → Mem → Prop) (h : wp_X7_fee i1 M K) : MI l D y ad yX7_fee (Cond.code yX7_fee cX7_fee 2 (some .int)) 7 M [.ref (ad 0), .int i1] K := by
  refine MI_of (by decide) (Nat.le_of_ble_eq_true rfl) ?_
  intro p e s m args below meth c X hr hlocks
  delta wp_X7_fee at h
  refine j_lv (lv1 := [(0, .ref (ad 0)), (1, .int i1)]) [0, 1] rfl ?_
  refine j_iload_n X 1 rfl rfl dX7_fee_0 ?_
  refine j_iconst X (v := 0) (by decide) dX7_fee_1 ?_
  refine j_bipush X (v := 60) (by decide) dX7_fee_2 ?_
  refine j_callSI X (nn := 3) (As := [.int i1, .int 0, .int 60]) (st := []) aw_110 (x_X7_isWithin l D y ad i1 0 60 _ _ h) aw_109 aw_111 aw_2 (by decide +kernel) ⟨Nat.le_of_ble_eq_true rfl, Nat.le_of_ble_eq_true rfl⟩ rfl (Nat.le_of_ble_eq_true rfl) ⟨Nat.le_of_ble_eq_true rfl, Nat.le_of_ble_eq_true rfl⟩ dX7_fee_4 ?_
  intro r1 M1 h
  refine j_if_ne X 17 (by decide) dX7_fee_7 (fun q_2 => ?_) (fun q_2 => ?_)
  · replace h := h.1 q_2
    refine j_aload_n X 0 rfl rfl dX7_fee_17 ?_
    refine j_callVV X (nn := 0) (As := []) (st := []) (ci := 7) cl_0.1 (wE_7 _ cl_0.2) rfl aw_534 aw_535 (x_X7_think l D y ad  _ _ h) aw_533 aw_536 aw_2 (by decide +kernel) ⟨Nat.le_of_ble_eq_true rfl, Nat.le_of_ble_eq_true rfl⟩ rfl (Nat.le_of_ble_eq_true rfl) ⟨Nat.le_of_ble_eq_true rfl, Nat.le_of_ble_eq_true rfl⟩ dX7_fee_18 ?_
    intro M3 h
    refine j_aload_n X 0 rfl rfl dX7_fee_21 ?_
    refine j_iload_n X 1 rfl rfl dX7_fee_22 ?_
    refine j_callVV X (nn := 1) (As := [.int i1]) (st := []) (ci := 7) cl_0.1 (wE_7 _ cl_0.2) rfl aw_545 aw_546 (x_X7_thinkDays l D y ad i1 _ _ h) aw_544 aw_547 aw_2 (by decide +kernel) ⟨Nat.le_of_ble_eq_true rfl, Nat.le_of_ble_eq_true rfl⟩ rfl (Nat.le_of_ble_eq_true rfl) ⟨Nat.le_of_ble_eq_true rfl, Nat.le_of_ble_eq_true rfl⟩ dX7_fee_23 ?_
    intro M4 h
    refine j_aload_n X 0 rfl rfl dX7_fee_26 ?_
    refine j_get X cl_0.1 (wE_7 _ cl_0.2) rfl awF7 2 (by decide) aw_21 rfl (v := .ref (ad 49)) rfl dX7_fee_27 ?_
    refine j_getN X cl_49.1 (wE_0 _ cl_49.2) rfl awF0 8 (by decide) (List.mem_of_getElem? (i := 20) rfl) rfl (v := .int (M4 49 8)) rfl dX7_fee_30 ?_
    refine j_aload_n X 0 rfl rfl dX7_fee_33 ?_
    refine j_get X cl_0.1 (wE_7 _ cl_0.2) rfl awF7 0 (by decide) aw_16 rfl (v := .ref (ad 1)) rfl dX7_fee_34 ?_
    refine j_getN X cl_1.1 (wE_6 _ cl_1.2) rfl awF6 2 (by decide) (List.mem_of_getElem? (i := 23) rfl) rfl (v := .ref (ad 12)) rfl dX7_fee_37 ?_
    refine j_getN X cl_12.1 (wE_0 _ cl_12.2) rfl awF0 8 (by decide) (List.mem_of_getElem? (i := 20) rfl) rfl (v := .int (M4 12 8)) rfl dX7_fee_40 ?_
    refine j_isub X dX7_fee_43 ?_
    exact j_iret X hr hlocks dX7_fee_44 h
  · replace h := h.2 q_2
    refine j_aload_n X 0 rfl rfl dX7_fee_10 ?_
    refine j_ldc X (v := (-1000000001)) aw_108 dX7_fee_11 ?_
    refine j_callVI X (nn := 1) (As := [.int (-1000000001)]) (st := []) (ci := 7) cl_0.1 (wE_7 _ cl_0.2) rfl aw_117 aw_118 (x_X7_refuse l D y ad (-1000000001) _ _ h) aw_116 aw_119 aw_2 (by decide +kernel) ⟨Nat.le_of_ble_eq_true rfl, Nat.le_of_ble_eq_true rfl⟩ rfl (Nat.le_of_ble_eq_true rfl) ⟨Nat.le_of_ble_eq_true rfl, Nat.le_of_ble_eq_true rfl⟩ dX7_fee_13 ?_
    intro r5 M5 h
    exact j_iret X hr hlocks dX7_fee_16 h
theorem dX7_free_0 : decode cX7_free 0 = .ok (.aload_n 0, 1) := dk_42 (by decide +kernel)
theorem dX7_free_1 : decode cX7_free 1 = .ok (.getfield 12, 3) := dk_180 (by decide +kernel)
theorem dX7_free_4 : decode cX7_free 4 = .ok (.getfield 72, 3) := dk_180 (by decide +kernel)
theorem dX7_free_7 : decode cX7_free 7 = .ok (.invokevirtual 249, 3) := dk_182 (by decide +kernel)
theorem dX7_free_10 : decode cX7_free 10 = .ok (.ireturn, 1) := dk_172 (by decide +kernel)
set_option maxRecDepth 100000 in
set_option maxHeartbeats 8000000 in
theorem x_X7_free (l : Launch) (D : va_G) (y : wY) (ad : Nat → Nat) (M : Mem) (K : Int32 → Mem → Prop) (h : wp_X7_free M K) : MI l D y ad yX7_free (Cond.code yX7_free cX7_free 1 (some .int)) 3 M [.ref (ad 0)] K := by
  refine MI_of (by decide) (Nat.le_of_ble_eq_true rfl) ?_
  intro p e s m args below meth c X hr hlocks
  delta wp_X7_free at h
  refine j_lv (lv1 := [(0, .ref (ad 0))]) [0] rfl ?_
  refine j_aload_n X 0 rfl rfl dX7_free_0 ?_
  refine j_get X cl_0.1 (wE_7 _ cl_0.2) rfl awF7 0 (by decide) aw_16 rfl (v := .ref (ad 1)) rfl dX7_free_1 ?_
  refine j_getN X cl_1.1 (wE_6 _ cl_1.2) rfl awF6 2 (by decide) (List.mem_of_getElem? (i := 23) rfl) rfl (v := .ref (ad 12)) rfl dX7_free_4 ?_
  refine j_callVNI X (nn := 0) (As := []) (st := []) (ci := 0) cl_12.1 (wE_0 _ cl_12.2) rfl aw_709 aw_710 (x_X0_setFree l D y ad 12 cl_12 _ _ h) (List.mem_of_getElem? (i := 42) rfl) aw_711 aw_20 (by decide +kernel) ⟨Nat.le_of_ble_eq_true rfl, Nat.le_of_ble_eq_true rfl⟩ rfl (Nat.le_of_ble_eq_true rfl) ⟨Nat.le_of_ble_eq_true rfl, Nat.le_of_ble_eq_true rfl⟩ dX7_free_7 ?_
  intro r1 M1 h
  exact j_iret X hr hlocks dX7_free_10 h
theorem dX7_greatestDivisor_2 : decode cX7_greatestDivisor 2 = .ok (.iload_n 2, 1) := dk_28 (by decide +kernel)
theorem dX7_greatestDivisor_3 : decode cX7_greatestDivisor 3 = .ok (.iconst 1, 1) := dk_4 (by decide +kernel)
theorem dX7_greatestDivisor_4 : decode cX7_greatestDivisor 4 = .ok (.if_icmp .le 23, 3) := dk_164 (by decide +kernel)
theorem dX7_greatestDivisor_27 : decode cX7_greatestDivisor 27 = .ok (.iconst 1, 1) := dk_4 (by decide +kernel)
theorem dX7_greatestDivisor_28 : decode cX7_greatestDivisor 28 = .ok (.ireturn, 1) := dk_172 (by decide +kernel)
theorem dX7_greatestDivisor_7 : decode cX7_greatestDivisor 7 = .ok (.iload_n 0, 1) := dk_26 (by decide +kernel)
theorem dX7_greatestDivisor_8 : decode cX7_greatestDivisor 8 = .ok (.iload_n 2, 1) := dk_28 (by decide +kernel)
theorem dX7_greatestDivisor_9 : decode cX7_greatestDivisor 9 = .ok (.irem, 1) := dk_112 (by decide +kernel)
theorem dX7_greatestDivisor_10 : decode cX7_greatestDivisor 10 = .ok (.ifCond .ne 11, 3) := dk_154 (by decide +kernel)
theorem dX7_greatestDivisor_21 : decode cX7_greatestDivisor 21 = .ok (.iinc 2 (-1), 3) := dk_132 (by decide +kernel)
theorem dX7_greatestDivisor_24 : decode cX7_greatestDivisor 24 = .ok (.goto (-22), 3) := dk_167 (by decide +kernel)
theorem dX7_greatestDivisor_13 : decode cX7_greatestDivisor 13 = .ok (.iload_n 1, 1) := dk_27 (by decide +kernel)
theorem dX7_greatestDivisor_14 : decode cX7_greatestDivisor 14 = .ok (.iload_n 2, 1) := dk_28 (by decide +kernel)
theorem dX7_greatestDivisor_15 : decode cX7_greatestDivisor 15 = .ok (.irem, 1) := dk_112 (by decide +kernel)
theorem dX7_greatestDivisor_16 : decode cX7_greatestDivisor 16 = .ok (.ifCond .ne 5, 3) := dk_154 (by decide +kernel)
theorem dX7_greatestDivisor_19 : decode cX7_greatestDivisor 19 = .ok (.iload_n 2, 1) := dk_28 (by decide +kernel)
theorem dX7_greatestDivisor_20 : decode cX7_greatestDivisor 20 = .ok (.ireturn, 1) := dk_172 (by decide +kernel)
theorem dX7_greatestDivisor_0 : decode cX7_greatestDivisor 0 = .ok (.iload_n 1, 1) := dk_27 (by decide +kernel)
theorem dX7_greatestDivisor_1 : decode cX7_greatestDivisor 1 = .ok (.istore_n 2, 1) := dk_61 (by decide +kernel)
set_option maxRecDepth 100000 in
set_option maxHeartbeats 8000000 in
theorem x_X7_greatestDivisor (l : Launch) (D : va_G) (y : wY) (ad : Nat → Nat) (i0 : Int32) (i1 : Int32) (M : Mem) (K : Int32 → Mem → Prop) (h : wp_X7_greatestDivisor i0 i1 M K) : MI l D y ad yX7_greatestDivisor (Cond.code yX7_greatestDivisor cX7_greatestDivisor 3 (some .int)) 0 M [.int i0, .int i1] K := by
  refine MI_of (by decide) (Nat.le_of_ble_eq_true rfl) ?_
  intro p e s m args below meth c X hr hlocks
  have hL2 : ∀ (i0 : Int32) (i1 : Int32) (n : Nat) (i2 : Int32) (Mb : Mem), wp_X7_greatestDivisor_L2 K i0 i1 n i2 Mb → J p l e (rmN 0) s m args below meth c 0 0 (QI K D y ad M s args below) D y ad (va_A (PL y ad M) s.heap.size) 3 Mb 2 [(0, .int i0), (1, .int i1), (2, .int i2)] [] := by
    intro i0 i1 n
    induction n with
    | zero => intro i2 Mb h; exact False.elim h
    | succ n hB2 =>
      intro i2 Mb h
      replace h : wp_X7_greatestDivisor_l2 K i0 i1 (wp_X7_greatestDivisor_L2 K i0 i1 n) i2 Mb := h
      delta wp_X7_greatestDivisor_l2 at h
      refine j_iload_n X 2 rfl rfl dX7_greatestDivisor_2 ?_
      refine j_iconst X (v := 1) (by decide) dX7_greatestDivisor_3 ?_
      refine j_icmp_le X 27 (by decide) dX7_greatestDivisor_4 (fun q_201 => ?_) (fun q_201 => ?_)
      · replace h := h.1 q_201
        refine j_iconst X (v := 1) (by decide) dX7_greatestDivisor_27 ?_
        exact j_iret X hr hlocks dX7_greatestDivisor_28 h
      · replace h := h.2 q_201
        refine j_iload_n X 0 rfl rfl dX7_greatestDivisor_7 ?_
        refine j_iload_n X 2 rfl rfl dX7_greatestDivisor_8 ?_
        obtain ⟨hn_202, h⟩ := h
        refine j_irem X hn_202 dX7_greatestDivisor_9 ?_
        refine j_if_ne X 21 (by decide) dX7_greatestDivisor_10 (fun q_203 => ?_) (fun q_203 => ?_)
        · replace h := h.1 q_203
          refine j_iinc X (v := (i2 + Int32.ofInt (-1))) 2 [(2, .int (i2 + Int32.ofInt (-1))), (0, .int i0), (1, .int i1)] rfl rfl (by decide) rfl dX7_greatestDivisor_21 ?_
          refine j_goto X 2 (by decide) dX7_greatestDivisor_24 ?_
          refine j_lv (lv1 := [(0, .int i0), (1, .int i1), (2, .int (i2 + Int32.ofInt (-1)))]) [1, 2, 0] rfl ?_
          exact hB2 _ _ h
        · replace h := h.2 q_203
          refine j_iload_n X 1 rfl rfl dX7_greatestDivisor_13 ?_
          refine j_iload_n X 2 rfl rfl dX7_greatestDivisor_14 ?_
          obtain ⟨hn_204, h⟩ := h
          refine j_irem X hn_204 dX7_greatestDivisor_15 ?_
          refine j_if_ne X 21 (by decide) dX7_greatestDivisor_16 (fun q_205 => ?_) (fun q_205 => ?_)
          · replace h := h.1 q_205
            refine j_iinc X (v := (i2 + Int32.ofInt (-1))) 2 [(2, .int (i2 + Int32.ofInt (-1))), (0, .int i0), (1, .int i1)] rfl rfl (by decide) rfl dX7_greatestDivisor_21 ?_
            refine j_goto X 2 (by decide) dX7_greatestDivisor_24 ?_
            refine j_lv (lv1 := [(0, .int i0), (1, .int i1), (2, .int (i2 + Int32.ofInt (-1)))]) [1, 2, 0] rfl ?_
            exact hB2 _ _ h
          · replace h := h.2 q_205
            refine j_iload_n X 2 rfl rfl dX7_greatestDivisor_19 ?_
            exact j_iret X hr hlocks dX7_greatestDivisor_20 h
  delta wp_X7_greatestDivisor at h
  refine j_lv (lv1 := [(0, .int i0), (1, .int i1)]) [0, 1] rfl ?_
  refine j_iload_n X 1 rfl rfl dX7_greatestDivisor_0 ?_
  refine j_istore_n X [(2, .int i1), (0, .int i0), (1, .int i1)] rfl (by decide) rfl dX7_greatestDivisor_1 ?_
  refine j_lv (lv1 := [(0, .int i0), (1, .int i1), (2, .int i1)]) [1, 2, 0] rfl ?_
  obtain ⟨n2, h⟩ := h
  exact hL2 _ _   n2 _ _ h
theorem dX7_odds_40 : decode cX7_odds 40 = .ok (.iload 5, 2) := dk_21 (by decide +kernel)
theorem dX7_odds_42 : decode cX7_odds 42 = .ok (.bipush 10, 2) := dk_16 (by decide +kernel)
theorem dX7_odds_44 : decode cX7_odds 44 = .ok (.if_icmp .ge 34, 3) := dk_162 (by decide +kernel)
theorem dX7_odds_78 : decode cX7_odds 78 = .ok (.iload 4, 2) := dk_21 (by decide +kernel)
theorem dX7_odds_80 : decode cX7_odds 80 = .ok (.bipush 10, 2) := dk_16 (by decide +kernel)
theorem dX7_odds_82 : decode cX7_odds 82 = .ok (.invokestatic 252, 3) := dk_184 (by decide +kernel)
theorem dX7_odds_85 : decode cX7_odds 85 = .ok (.istore 5, 2) := dk_54 (by decide +kernel)
theorem dX7_odds_87 : decode cX7_odds 87 = .ok (.iload_n 3, 1) := dk_29 (by decide +kernel)
theorem dX7_odds_88 : decode cX7_odds 88 = .ok (.ifCond .ne 11, 3) := dk_154 (by decide +kernel)
theorem dX7_odds_99 : decode cX7_odds 99 = .ok (.bipush 10, 2) := dk_16 (by decide +kernel)
theorem dX7_odds_101 : decode cX7_odds 101 = .ok (.iload 5, 2) := dk_21 (by decide +kernel)
theorem dX7_odds_103 : decode cX7_odds 103 = .ok (.idiv, 1) := dk_108 (by decide +kernel)
theorem dX7_odds_104 : decode cX7_odds 104 = .ok (.ireturn, 1) := dk_172 (by decide +kernel)
theorem dX7_odds_91 : decode cX7_odds 91 = .ok (.iload 4, 2) := dk_21 (by decide +kernel)
theorem dX7_odds_93 : decode cX7_odds 93 = .ok (.iload 5, 2) := dk_21 (by decide +kernel)
theorem dX7_odds_95 : decode cX7_odds 95 = .ok (.idiv, 1) := dk_108 (by decide +kernel)
theorem dX7_odds_96 : decode cX7_odds 96 = .ok (.goto 8, 3) := dk_167 (by decide +kernel)
theorem dX7_odds_47 : decode cX7_odds 47 = .ok (.aload_n 0, 1) := dk_42 (by decide +kernel)
theorem dX7_odds_48 : decode cX7_odds 48 = .ok (.invokevirtual 191, 3) := dk_182 (by decide +kernel)
theorem dX7_odds_51 : decode cX7_odds 51 = .ok (.aload_n 0, 1) := dk_42 (by decide +kernel)
theorem dX7_odds_52 : decode cX7_odds 52 = .ok (.getfield 31, 3) := dk_180 (by decide +kernel)
theorem dX7_odds_55 : decode cX7_odds 55 = .ok (.iload 5, 2) := dk_21 (by decide +kernel)
theorem dX7_odds_57 : decode cX7_odds 57 = .ok (.putfield 201, 3) := dk_181 (by decide +kernel)
theorem dX7_odds_60 : decode cX7_odds 60 = .ok (.aload_n 0, 1) := dk_42 (by decide +kernel)
theorem dX7_odds_61 : decode cX7_odds 61 = .ok (.iload_n 1, 1) := dk_27 (by decide +kernel)
theorem dX7_odds_62 : decode cX7_odds 62 = .ok (.iload_n 2, 1) := dk_28 (by decide +kernel)
theorem dX7_odds_63 : decode cX7_odds 63 = .ok (.invokevirtual 215, 3) := dk_182 (by decide +kernel)
theorem dX7_odds_66 : decode cX7_odds 66 = .ok (.ifCond .eq 6, 3) := dk_153 (by decide +kernel)
theorem dX7_odds_72 : decode cX7_odds 72 = .ok (.iinc 5 1, 3) := dk_132 (by decide +kernel)
theorem dX7_odds_75 : decode cX7_odds 75 = .ok (.goto (-35), 3) := dk_167 (by decide +kernel)
theorem dX7_odds_69 : decode cX7_odds 69 = .ok (.iinc 4 1, 3) := dk_132 (by decide +kernel)
theorem dX7_odds_0 : decode cX7_odds 0 = .ok (.aload_n 0, 1) := dk_42 (by decide +kernel)
theorem dX7_odds_1 : decode cX7_odds 1 = .ok (.iload_n 1, 1) := dk_27 (by decide +kernel)
theorem dX7_odds_2 : decode cX7_odds 2 = .ok (.invokevirtual 117, 3) := dk_182 (by decide +kernel)
theorem dX7_odds_5 : decode cX7_odds 5 = .ok (.ifCond .eq 22, 3) := dk_153 (by decide +kernel)
theorem dX7_odds_27 : decode cX7_odds 27 = .ok (.aload_n 0, 1) := dk_42 (by decide +kernel)
theorem dX7_odds_28 : decode cX7_odds 28 = .ok (.ldc 68, 2) := dk_18 (by decide +kernel)
theorem dX7_odds_30 : decode cX7_odds 30 = .ok (.invokevirtual 69, 3) := dk_182 (by decide +kernel)
theorem dX7_odds_33 : decode cX7_odds 33 = .ok (.ireturn, 1) := dk_172 (by decide +kernel)
theorem dX7_odds_8 : decode cX7_odds 8 = .ok (.iload_n 2, 1) := dk_28 (by decide +kernel)
theorem dX7_odds_9 : decode cX7_odds 9 = .ok (.iconst 0, 1) := dk_3 (by decide +kernel)
theorem dX7_odds_10 : decode cX7_odds 10 = .ok (.bipush 60, 2) := dk_16 (by decide +kernel)
theorem dX7_odds_12 : decode cX7_odds 12 = .ok (.invokestatic 60, 3) := dk_184 (by decide +kernel)
theorem dX7_odds_15 : decode cX7_odds 15 = .ok (.ifCond .eq 12, 3) := dk_153 (by decide +kernel)
theorem dX7_odds_18 : decode cX7_odds 18 = .ok (.iload_n 3, 1) := dk_29 (by decide +kernel)
theorem dX7_odds_19 : decode cX7_odds 19 = .ok (.iconst 0, 1) := dk_3 (by decide +kernel)
theorem dX7_odds_20 : decode cX7_odds 20 = .ok (.iconst 1, 1) := dk_4 (by decide +kernel)
theorem dX7_odds_21 : decode cX7_odds 21 = .ok (.invokestatic 60, 3) := dk_184 (by decide +kernel)
theorem dX7_odds_24 : decode cX7_odds 24 = .ok (.ifCond .ne 10, 3) := dk_154 (by decide +kernel)
theorem dX7_odds_34 : decode cX7_odds 34 = .ok (.iconst 0, 1) := dk_3 (by decide +kernel)
theorem dX7_odds_35 : decode cX7_odds 35 = .ok (.istore 4, 2) := dk_54 (by decide +kernel)
theorem dX7_odds_37 : decode cX7_odds 37 = .ok (.iconst 0, 1) := dk_3 (by decide +kernel)
theorem dX7_odds_38 : decode cX7_odds 38 = .ok (.istore 5, 2) := dk_54 (by decide +kernel)
set_option maxRecDepth 100000 in
set_option maxHeartbeats 8000000 in
theorem x_X7_odds (l : Launch) (D : va_G) (y : wY) (ad : Nat → Nat) (i1 : Int32) (i2 : Int32) (i3 : Int32) (M : Mem) (K : Int32 → Mem → Prop) (h : wp_X7_odds i1 i2 i3 M K) : MI l D y ad yX7_odds (Cond.code yX7_odds cX7_odds 6 (some .int)) 7 M [.ref (ad 0), .int i1, .int i2, .int i3] K := by
  refine MI_of (by decide) (Nat.le_of_ble_eq_true rfl) ?_
  intro p e s m args below meth c X hr hlocks
  have hL40 : ∀ (i1 : Int32) (i2 : Int32) (i3 : Int32) (n : Nat) (i4 : Int32) (i5 : Int32) (Mb : Mem), wp_X7_odds_L40 K i1 i2 i3 n i4 i5 Mb → J p l e (rmN 7) s m args below meth c 0 0 (QI K D y ad M s args below) D y ad (va_A (PL y ad M) s.heap.size) 6 Mb 40 [(0, .ref (ad 0)), (1, .int i1), (2, .int i2), (3, .int i3), (4, .int i4), (5, .int i5)] [] := by
    intro i1 i2 i3 n
    induction n with
    | zero => intro i4 i5 Mb h; exact False.elim h
    | succ n hB40 =>
      intro i4 i5 Mb h
      replace h : wp_X7_odds_l40 K i1 i2 i3 (wp_X7_odds_L40 K i1 i2 i3 n) i4 i5 Mb := h
      delta wp_X7_odds_l40 at h
      refine j_iload X 5 rfl dX7_odds_40 ?_
      refine j_bipush X (v := 10) (by decide) dX7_odds_42 ?_
      refine j_icmp_ge X 78 (by decide) dX7_odds_44 (fun q_4001 => ?_) (fun q_4001 => ?_)
      · replace h := h.1 q_4001
        refine j_iload X 4 rfl dX7_odds_78 ?_
        refine j_bipush X (v := 10) (by decide) dX7_odds_80 ?_
        refine j_callSI X (nn := 2) (As := [.int i4, .int 10]) (st := []) aw_721 (x_X7_greatestDivisor l D y ad i4 10 _ _ h) aw_720 aw_722 aw_2 (by decide +kernel) ⟨Nat.le_of_ble_eq_true rfl, Nat.le_of_ble_eq_true rfl⟩ rfl (Nat.le_of_ble_eq_true rfl) ⟨Nat.le_of_ble_eq_true rfl, Nat.le_of_ble_eq_true rfl⟩ dX7_odds_82 ?_
        intro r4002 M4002 h
        refine j_istore X [(5, .int r4002), (0, .ref (ad 0)), (1, .int i1), (2, .int i2), (3, .int i3), (4, .int i4)] (by decide) rfl dX7_odds_85 ?_
        refine j_iload_n X 4 rfl rfl dX7_odds_87 ?_
        refine j_if_ne X 99 (by decide) dX7_odds_88 (fun q_4003 => ?_) (fun q_4003 => ?_)
        · replace h := h.1 q_4003
          refine j_bipush X (v := 10) (by decide) dX7_odds_99 ?_
          refine j_iload X 0 rfl dX7_odds_101 ?_
          obtain ⟨hn_4004, h⟩ := h
          refine j_idiv X hn_4004 dX7_odds_103 ?_
          exact j_iret X hr hlocks dX7_odds_104 h
        · replace h := h.2 q_4003
          refine j_iload X 5 rfl dX7_odds_91 ?_
          refine j_iload X 0 rfl dX7_odds_93 ?_
          obtain ⟨hn_4005, h⟩ := h
          refine j_idiv X hn_4005 dX7_odds_95 ?_
          refine j_goto X 104 (by decide) dX7_odds_96 ?_
          exact j_iret X hr hlocks dX7_odds_104 h
      · replace h := h.2 q_4001
        refine j_aload_n X 0 rfl rfl dX7_odds_47 ?_
        refine j_callVV X (nn := 0) (As := []) (st := []) (ci := 7) cl_0.1 (wE_7 _ cl_0.2) rfl aw_534 aw_535 (x_X7_think l D y ad  _ _ h) aw_533 aw_536 aw_2 (by decide +kernel) ⟨Nat.le_of_ble_eq_true rfl, Nat.le_of_ble_eq_true rfl⟩ rfl (Nat.le_of_ble_eq_true rfl) ⟨Nat.le_of_ble_eq_true rfl, Nat.le_of_ble_eq_true rfl⟩ dX7_odds_48 ?_
        intro M4006 h
        refine j_aload_n X 0 rfl rfl dX7_odds_51 ?_
        refine j_get X cl_0.1 (wE_7 _ cl_0.2) rfl awF7 2 (by decide) aw_21 rfl (v := .ref (ad 49)) rfl dX7_odds_52 ?_
        refine j_iload X 5 rfl dX7_odds_55 ?_
        refine j_putN X (up M4006 49 4 i5) up_o cl_49.1 (wE_0 _ cl_49.2) rfl awF0 4 (by decide) (wP_0_4 _ _ cl_49.2) tyX0 tyX0_ok nmX0 rfl (ty := .int) (by decide +kernel) rfl rfl (Nat.le_of_ble_eq_true rfl) (List.mem_of_getElem? (i := 16) rfl) rfl dX7_odds_57 ?_
        refine j_aload_n X 0 rfl rfl dX7_odds_60 ?_
        refine j_iload_n X 1 rfl rfl dX7_odds_61 ?_
        refine j_iload_n X 2 rfl rfl dX7_odds_62 ?_
        refine j_callVI X (nn := 2) (As := [.int i1, .int i2]) (st := []) (ci := 7) cl_0.1 (wE_7 _ cl_0.2) rfl aw_610 aw_611 (x_X7_endsInThought l D y ad i1 i2 _ _ h) aw_609 aw_612 aw_2 (by decide +kernel) ⟨Nat.le_of_ble_eq_true rfl, Nat.le_of_ble_eq_true rfl⟩ rfl (Nat.le_of_ble_eq_true rfl) ⟨Nat.le_of_ble_eq_true rfl, Nat.le_of_ble_eq_true rfl⟩ dX7_odds_63 ?_
        intro r4007 M4007 h
        refine j_if_eq X 72 (by decide) dX7_odds_66 (fun q_4008 => ?_) (fun q_4008 => ?_)
        · replace h := h.1 q_4008
          refine j_iinc X (v := (i5 + 1)) 5 [(5, .int (i5 + 1)), (0, .ref (ad 0)), (1, .int i1), (2, .int i2), (3, .int i3), (4, .int i4)] rfl rfl (by decide) rfl dX7_odds_72 ?_
          refine j_goto X 40 (by decide) dX7_odds_75 ?_
          refine j_lv (lv1 := [(0, .ref (ad 0)), (1, .int i1), (2, .int i2), (3, .int i3), (4, .int i4), (5, .int (i5 + 1))]) [1, 2, 3, 4, 5, 0] rfl ?_
          exact hB40 _ _ _ h
        · replace h := h.2 q_4008
          refine j_iinc X (v := (i4 + 1)) 4 [(4, .int (i4 + 1)), (0, .ref (ad 0)), (1, .int i1), (2, .int i2), (3, .int i3), (5, .int i5)] rfl rfl (by decide) rfl dX7_odds_69 ?_
          refine j_iinc X (v := (i5 + 1)) 5 [(5, .int (i5 + 1)), (4, .int (i4 + 1)), (0, .ref (ad 0)), (1, .int i1), (2, .int i2), (3, .int i3)] rfl rfl (by decide) rfl dX7_odds_72 ?_
          refine j_goto X 40 (by decide) dX7_odds_75 ?_
          refine j_lv (lv1 := [(0, .ref (ad 0)), (1, .int i1), (2, .int i2), (3, .int i3), (4, .int (i4 + 1)), (5, .int (i5 + 1))]) [2, 3, 4, 5, 1, 0] rfl ?_
          exact hB40 _ _ _ h
  delta wp_X7_odds at h
  refine j_lv (lv1 := [(0, .ref (ad 0)), (1, .int i1), (2, .int i2), (3, .int i3)]) [0, 1, 2, 3] rfl ?_
  refine j_aload_n X 0 rfl rfl dX7_odds_0 ?_
  refine j_iload_n X 1 rfl rfl dX7_odds_1 ?_
  refine j_callVI X (nn := 1) (As := [.int i1]) (st := []) (ci := 7) cl_0.1 (wE_7 _ cl_0.2) rfl aw_191 aw_192 (x_X7_isQuarrel l D y ad i1 _ _ h) aw_190 aw_193 aw_2 (by decide +kernel) ⟨Nat.le_of_ble_eq_true rfl, Nat.le_of_ble_eq_true rfl⟩ rfl (Nat.le_of_ble_eq_true rfl) ⟨Nat.le_of_ble_eq_true rfl, Nat.le_of_ble_eq_true rfl⟩ dX7_odds_2 ?_
  intro r1 M1 h
  refine j_if_eq X 27 (by decide) dX7_odds_5 (fun q_2 => ?_) (fun q_2 => ?_)
  · replace h := h.1 q_2
    refine j_aload_n X 0 rfl rfl dX7_odds_27 ?_
    refine j_ldc X (v := (-1000000001)) aw_108 dX7_odds_28 ?_
    refine j_callVI X (nn := 1) (As := [.int (-1000000001)]) (st := []) (ci := 7) cl_0.1 (wE_7 _ cl_0.2) rfl aw_117 aw_118 (x_X7_refuse l D y ad (-1000000001) _ _ h) aw_116 aw_119 aw_2 (by decide +kernel) ⟨Nat.le_of_ble_eq_true rfl, Nat.le_of_ble_eq_true rfl⟩ rfl (Nat.le_of_ble_eq_true rfl) ⟨Nat.le_of_ble_eq_true rfl, Nat.le_of_ble_eq_true rfl⟩ dX7_odds_30 ?_
    intro r3 M3 h
    exact j_iret X hr hlocks dX7_odds_33 h
  · replace h := h.2 q_2
    refine j_iload_n X 2 rfl rfl dX7_odds_8 ?_
    refine j_iconst X (v := 0) (by decide) dX7_odds_9 ?_
    refine j_bipush X (v := 60) (by decide) dX7_odds_10 ?_
    refine j_callSI X (nn := 3) (As := [.int i2, .int 0, .int 60]) (st := []) aw_110 (x_X7_isWithin l D y ad i2 0 60 _ _ h) aw_109 aw_111 aw_2 (by decide +kernel) ⟨Nat.le_of_ble_eq_true rfl, Nat.le_of_ble_eq_true rfl⟩ rfl (Nat.le_of_ble_eq_true rfl) ⟨Nat.le_of_ble_eq_true rfl, Nat.le_of_ble_eq_true rfl⟩ dX7_odds_12 ?_
    intro r4 M4 h
    refine j_if_eq X 27 (by decide) dX7_odds_15 (fun q_5 => ?_) (fun q_5 => ?_)
    · replace h := h.1 q_5
      refine j_aload_n X 0 rfl rfl dX7_odds_27 ?_
      refine j_ldc X (v := (-1000000001)) aw_108 dX7_odds_28 ?_
      refine j_callVI X (nn := 1) (As := [.int (-1000000001)]) (st := []) (ci := 7) cl_0.1 (wE_7 _ cl_0.2) rfl aw_117 aw_118 (x_X7_refuse l D y ad (-1000000001) _ _ h) aw_116 aw_119 aw_2 (by decide +kernel) ⟨Nat.le_of_ble_eq_true rfl, Nat.le_of_ble_eq_true rfl⟩ rfl (Nat.le_of_ble_eq_true rfl) ⟨Nat.le_of_ble_eq_true rfl, Nat.le_of_ble_eq_true rfl⟩ dX7_odds_30 ?_
      intro r6 M6 h
      exact j_iret X hr hlocks dX7_odds_33 h
    · replace h := h.2 q_5
      refine j_iload_n X 3 rfl rfl dX7_odds_18 ?_
      refine j_iconst X (v := 0) (by decide) dX7_odds_19 ?_
      refine j_iconst X (v := 1) (by decide) dX7_odds_20 ?_
      refine j_callSI X (nn := 3) (As := [.int i3, .int 0, .int 1]) (st := []) aw_110 (x_X7_isWithin l D y ad i3 0 1 _ _ h) aw_109 aw_111 aw_2 (by decide +kernel) ⟨Nat.le_of_ble_eq_true rfl, Nat.le_of_ble_eq_true rfl⟩ rfl (Nat.le_of_ble_eq_true rfl) ⟨Nat.le_of_ble_eq_true rfl, Nat.le_of_ble_eq_true rfl⟩ dX7_odds_21 ?_
      intro r7 M7 h
      refine j_if_ne X 34 (by decide) dX7_odds_24 (fun q_8 => ?_) (fun q_8 => ?_)
      · replace h := h.1 q_8
        refine j_iconst X (v := 0) (by decide) dX7_odds_34 ?_
        refine j_istore X [(4, .int 0), (0, .ref (ad 0)), (1, .int i1), (2, .int i2), (3, .int i3)] (by decide) rfl dX7_odds_35 ?_
        refine j_iconst X (v := 0) (by decide) dX7_odds_37 ?_
        refine j_istore X [(5, .int 0), (4, .int 0), (0, .ref (ad 0)), (1, .int i1), (2, .int i2), (3, .int i3)] (by decide) rfl dX7_odds_38 ?_
        refine j_lv (lv1 := [(0, .ref (ad 0)), (1, .int i1), (2, .int i2), (3, .int i3), (4, .int 0), (5, .int 0)]) [2, 3, 4, 5, 1, 0] rfl ?_
        obtain ⟨n40, h⟩ := h
        exact hL40 _ _ _   n40 _ _ _ h
      · replace h := h.2 q_8
        refine j_aload_n X 0 rfl rfl dX7_odds_27 ?_
        refine j_ldc X (v := (-1000000001)) aw_108 dX7_odds_28 ?_
        refine j_callVI X (nn := 1) (As := [.int (-1000000001)]) (st := []) (ci := 7) cl_0.1 (wE_7 _ cl_0.2) rfl aw_117 aw_118 (x_X7_refuse l D y ad (-1000000001) _ _ h) aw_116 aw_119 aw_2 (by decide +kernel) ⟨Nat.le_of_ble_eq_true rfl, Nat.le_of_ble_eq_true rfl⟩ rfl (Nat.le_of_ble_eq_true rfl) ⟨Nat.le_of_ble_eq_true rfl, Nat.le_of_ble_eq_true rfl⟩ dX7_odds_30 ?_
        intro r9 M9 h
        exact j_iret X hr hlocks dX7_odds_33 h
theorem dX7_seed_0 : decode cX7_seed 0 = .ok (.aload_n 0, 1) := dk_42 (by decide +kernel)
theorem dX7_seed_1 : decode cX7_seed 1 = .ok (.getfield 12, 3) := dk_180 (by decide +kernel)
theorem dX7_seed_4 : decode cX7_seed 4 = .ok (.getfield 255, 3) := dk_180 (by decide +kernel)
theorem dX7_seed_7 : decode cX7_seed 7 = .ok (.istore_n 2, 1) := dk_61 (by decide +kernel)
theorem dX7_seed_8 : decode cX7_seed 8 = .ok (.aload_n 0, 1) := dk_42 (by decide +kernel)
theorem dX7_seed_9 : decode cX7_seed 9 = .ok (.getfield 12, 3) := dk_180 (by decide +kernel)
theorem dX7_seed_12 : decode cX7_seed 12 = .ok (.iload_n 1, 1) := dk_27 (by decide +kernel)
theorem dX7_seed_13 : decode cX7_seed 13 = .ok (.putfield 255, 3) := dk_181 (by decide +kernel)
theorem dX7_seed_16 : decode cX7_seed 16 = .ok (.iload_n 2, 1) := dk_28 (by decide +kernel)
theorem dX7_seed_17 : decode cX7_seed 17 = .ok (.ireturn, 1) := dk_172 (by decide +kernel)
set_option maxRecDepth 100000 in
set_option maxHeartbeats 8000000 in
theorem x_X7_seed (l : Launch) (D : va_G) (y : wY) (ad : Nat → Nat) (i1 : Int32) (M : Mem) (K : Int32 → Mem → Prop) (h : wp_X7_seed i1 M K) : MI l D y ad yX7_seed (Cond.code yX7_seed cX7_seed 3 (some .int)) 0 M [.ref (ad 0), .int i1] K := by
  refine MI_of (by decide) (Nat.le_of_ble_eq_true rfl) ?_
  intro p e s m args below meth c X hr hlocks
  delta wp_X7_seed at h
  refine j_lv (lv1 := [(0, .ref (ad 0)), (1, .int i1)]) [0, 1] rfl ?_
  refine j_aload_n X 0 rfl rfl dX7_seed_0 ?_
  refine j_get X cl_0.1 (wE_7 _ cl_0.2) rfl awF7 0 (by decide) aw_16 rfl (v := .ref (ad 1)) rfl dX7_seed_1 ?_
  refine j_getN X cl_1.1 (wE_6 _ cl_1.2) rfl awF6 7 (by decide) (List.mem_of_getElem? (i := 28) rfl) rfl (v := .int (M 1 7)) rfl dX7_seed_4 ?_
  refine j_istore_n X [(2, .int (M 1 7)), (0, .ref (ad 0)), (1, .int i1)] rfl (by decide) rfl dX7_seed_7 ?_
  refine j_aload_n X 1 rfl rfl dX7_seed_8 ?_
  refine j_get X cl_0.1 (wE_7 _ cl_0.2) rfl awF7 0 (by decide) aw_16 rfl (v := .ref (ad 1)) rfl dX7_seed_9 ?_
  refine j_iload_n X 2 rfl rfl dX7_seed_12 ?_
  refine j_putN X (up M 1 7 i1) up_o cl_1.1 (wE_6 _ cl_1.2) rfl awF6 7 (by decide) (wP_6_7 _ _ cl_1.2) tyX6 tyX6_ok nmX6 rfl (ty := .int) (by decide +kernel) rfl rfl (Nat.le_of_ble_eq_true rfl) (List.mem_of_getElem? (i := 28) rfl) rfl dX7_seed_13 ?_
  refine j_iload_n X 0 rfl rfl dX7_seed_16 ?_
  exact j_iret X hr hlocks dX7_seed_17 h
theorem dX7_voice_0 : decode cX7_voice 0 = .ok (.aload_n 0, 1) := dk_42 (by decide +kernel)
theorem dX7_voice_1 : decode cX7_voice 1 = .ok (.iload_n 1, 1) := dk_27 (by decide +kernel)
theorem dX7_voice_2 : decode cX7_voice 2 = .ok (.invokevirtual 117, 3) := dk_182 (by decide +kernel)
theorem dX7_voice_5 : decode cX7_voice 5 = .ok (.ifCond .eq 12, 3) := dk_153 (by decide +kernel)
theorem dX7_voice_17 : decode cX7_voice 17 = .ok (.aload_n 0, 1) := dk_42 (by decide +kernel)
theorem dX7_voice_18 : decode cX7_voice 18 = .ok (.ldc 68, 2) := dk_18 (by decide +kernel)
theorem dX7_voice_20 : decode cX7_voice 20 = .ok (.invokevirtual 69, 3) := dk_182 (by decide +kernel)
theorem dX7_voice_23 : decode cX7_voice 23 = .ok (.ireturn, 1) := dk_172 (by decide +kernel)
theorem dX7_voice_8 : decode cX7_voice 8 = .ok (.iload_n 2, 1) := dk_28 (by decide +kernel)
theorem dX7_voice_9 : decode cX7_voice 9 = .ok (.iconst 0, 1) := dk_3 (by decide +kernel)
theorem dX7_voice_10 : decode cX7_voice 10 = .ok (.iconst 3, 1) := dk_6 (by decide +kernel)
theorem dX7_voice_11 : decode cX7_voice 11 = .ok (.invokestatic 60, 3) := dk_184 (by decide +kernel)
theorem dX7_voice_14 : decode cX7_voice 14 = .ok (.ifCond .ne 10, 3) := dk_154 (by decide +kernel)
theorem dX7_voice_24 : decode cX7_voice 24 = .ok (.aload_n 0, 1) := dk_42 (by decide +kernel)
theorem dX7_voice_25 : decode cX7_voice 25 = .ok (.getfield 12, 3) := dk_180 (by decide +kernel)
theorem dX7_voice_28 : decode cX7_voice 28 = .ok (.getfield 72, 3) := dk_180 (by decide +kernel)
theorem dX7_voice_31 : decode cX7_voice 31 = .ok (.getfield 91, 3) := dk_180 (by decide +kernel)
theorem dX7_voice_34 : decode cX7_voice 34 = .ok (.iload_n 1, 1) := dk_27 (by decide +kernel)
theorem dX7_voice_35 : decode cX7_voice 35 = .ok (.aaload, 1) := dk_50 (by decide +kernel)
theorem dX7_voice_36 : decode cX7_voice 36 = .ok (.astore 4, 2) := dk_58 (by decide +kernel)
theorem dX7_voice_38 : decode cX7_voice 38 = .ok (.aload_n 0, 1) := dk_42 (by decide +kernel)
theorem dX7_voice_39 : decode cX7_voice 39 = .ok (.getfield 45, 3) := dk_180 (by decide +kernel)
theorem dX7_voice_42 : decode cX7_voice 42 = .ok (.aload 4, 2) := dk_25 (by decide +kernel)
theorem dX7_voice_44 : decode cX7_voice 44 = .ok (.getfield 120, 3) := dk_180 (by decide +kernel)
theorem dX7_voice_47 : decode cX7_voice 47 = .ok (.iload_n 1, 1) := dk_27 (by decide +kernel)
theorem dX7_voice_48 : decode cX7_voice 48 = .ok (.aload 4, 2) := dk_25 (by decide +kernel)
theorem dX7_voice_50 : decode cX7_voice 50 = .ok (.getfield 123, 3) := dk_180 (by decide +kernel)
theorem dX7_voice_53 : decode cX7_voice 53 = .ok (.invokevirtual 258, 3) := dk_182 (by decide +kernel)
theorem dX7_voice_56 : decode cX7_voice 56 = .ok (.aload_n 0, 1) := dk_42 (by decide +kernel)
theorem dX7_voice_57 : decode cX7_voice 57 = .ok (.getfield 45, 3) := dk_180 (by decide +kernel)
theorem dX7_voice_60 : decode cX7_voice 60 = .ok (.iload_n 2, 1) := dk_28 (by decide +kernel)
theorem dX7_voice_61 : decode cX7_voice 61 = .ok (.iload_n 3, 1) := dk_29 (by decide +kernel)
theorem dX7_voice_62 : decode cX7_voice 62 = .ok (.invokevirtual 262, 3) := dk_182 (by decide +kernel)
theorem dX7_voice_65 : decode cX7_voice 65 = .ok (.ireturn, 1) := dk_172 (by decide +kernel)
set_option maxRecDepth 100000 in
set_option maxHeartbeats 8000000 in
theorem x_X7_voice (l : Launch) (D : va_G) (y : wY) (ad : Nat → Nat) (i1 : Int32) (i2 : Int32) (i3 : Int32) (M : Mem) (K : Int32 → Mem → Prop) (h : wp_X7_voice i1 i2 i3 M K) : MI l D y ad yX7_voice (Cond.code yX7_voice cX7_voice 5 (some .int)) 29 M [.ref (ad 0), .int i1, .int i2, .int i3] K := by
  refine MI_of (by decide) (Nat.le_of_ble_eq_true rfl) ?_
  intro p e s m args below meth c X hr hlocks
  delta wp_X7_voice at h
  refine j_lv (lv1 := [(0, .ref (ad 0)), (1, .int i1), (2, .int i2), (3, .int i3)]) [0, 1, 2, 3] rfl ?_
  refine j_aload_n X 0 rfl rfl dX7_voice_0 ?_
  refine j_iload_n X 1 rfl rfl dX7_voice_1 ?_
  refine j_callVI X (nn := 1) (As := [.int i1]) (st := []) (ci := 7) cl_0.1 (wE_7 _ cl_0.2) rfl aw_191 aw_192 (x_X7_isQuarrel l D y ad i1 _ _ h) aw_190 aw_193 aw_2 (by decide +kernel) ⟨Nat.le_of_ble_eq_true rfl, Nat.le_of_ble_eq_true rfl⟩ rfl (Nat.le_of_ble_eq_true rfl) ⟨Nat.le_of_ble_eq_true rfl, Nat.le_of_ble_eq_true rfl⟩ dX7_voice_2 ?_
  intro r1 M1 h
  refine j_if_eq X 17 (by decide) dX7_voice_5 (fun q_2 => ?_) (fun q_2 => ?_)
  · replace h := h.1 q_2
    refine j_aload_n X 0 rfl rfl dX7_voice_17 ?_
    refine j_ldc X (v := (-1000000001)) aw_108 dX7_voice_18 ?_
    refine j_callVI X (nn := 1) (As := [.int (-1000000001)]) (st := []) (ci := 7) cl_0.1 (wE_7 _ cl_0.2) rfl aw_117 aw_118 (x_X7_refuse l D y ad (-1000000001) _ _ h) aw_116 aw_119 aw_2 (by decide +kernel) ⟨Nat.le_of_ble_eq_true rfl, Nat.le_of_ble_eq_true rfl⟩ rfl (Nat.le_of_ble_eq_true rfl) ⟨Nat.le_of_ble_eq_true rfl, Nat.le_of_ble_eq_true rfl⟩ dX7_voice_20 ?_
    intro r3 M3 h
    exact j_iret X hr hlocks dX7_voice_23 h
  · replace h := h.2 q_2
    refine j_iload_n X 2 rfl rfl dX7_voice_8 ?_
    refine j_iconst X (v := 0) (by decide) dX7_voice_9 ?_
    refine j_iconst X (v := 3) (by decide) dX7_voice_10 ?_
    refine j_callSI X (nn := 3) (As := [.int i2, .int 0, .int 3]) (st := []) aw_110 (x_X7_isWithin l D y ad i2 0 3 _ _ h) aw_109 aw_111 aw_2 (by decide +kernel) ⟨Nat.le_of_ble_eq_true rfl, Nat.le_of_ble_eq_true rfl⟩ rfl (Nat.le_of_ble_eq_true rfl) ⟨Nat.le_of_ble_eq_true rfl, Nat.le_of_ble_eq_true rfl⟩ dX7_voice_11 ?_
    intro r4 M4 h
    refine j_if_ne X 24 (by decide) dX7_voice_14 (fun q_5 => ?_) (fun q_5 => ?_)
    · replace h := h.1 q_5
      refine j_aload_n X 0 rfl rfl dX7_voice_24 ?_
      refine j_get X cl_0.1 (wE_7 _ cl_0.2) rfl awF7 0 (by decide) aw_16 rfl (v := .ref (ad 1)) rfl dX7_voice_25 ?_
      refine j_getN X cl_1.1 (wE_6 _ cl_1.2) rfl awF6 2 (by decide) (List.mem_of_getElem? (i := 23) rfl) rfl (v := .ref (ad 12)) rfl dX7_voice_28 ?_
      refine j_getN X cl_12.1 (wE_0 _ cl_12.2) rfl awF0 2 (by decide) (List.mem_of_getElem? (i := 14) rfl) rfl (v := .ref (ad 13)) rfl dX7_voice_31 ?_
      refine j_iload_n X 1 rfl rfl dX7_voice_34 ?_
      obtain ⟨hi_6, h⟩ := h
      refine j_aald10 X cl_13.1 cl_13.2 hi_6 dX7_voice_35 ?_
      refine j_eqr (v := (14 + i1.toNatClampNeg)) (re_13 hi_6) ?_
      have hk_7 := rc_13 hi_6
      refine j_astore X [(4, .ref (ad (14 + i1.toNatClampNeg))), (0, .ref (ad 0)), (1, .int i1), (2, .int i2), (3, .int i3)] (by decide) rfl dX7_voice_36 ?_
      refine j_aload_n X 1 rfl rfl dX7_voice_38 ?_
      refine j_get X cl_0.1 (wE_7 _ cl_0.2) rfl awF7 4 (by decide) aw_29 rfl (v := .ref (ad 67)) rfl dX7_voice_39 ?_
      refine j_aload X 0 rfl dX7_voice_42 ?_
      refine j_getN X hk_7.1 (wE_1 _ hk_7.2) rfl awF1 0 (by decide) (List.mem_of_getElem? (i := 1) rfl) rfl (v := .int (M4 (14 + i1.toNatClampNeg) 0)) rfl dX7_voice_44 ?_
      refine j_iload_n X 2 rfl rfl dX7_voice_47 ?_
      refine j_aload X 0 rfl dX7_voice_48 ?_
      refine j_getN X hk_7.1 (wE_1 _ hk_7.2) rfl awF1 1 (by decide) (List.mem_of_getElem? (i := 2) rfl) rfl (v := .int (M4 (14 + i1.toNatClampNeg) 1)) rfl dX7_voice_50 ?_
      refine j_callVNV X (nn := 3) (As := [.int (M4 (14 + i1.toNatClampNeg) 0), .int i1, .int (M4 (14 + i1.toNatClampNeg) 1)]) (st := []) (ci := 5) cl_67.1 (wE_5 _ cl_67.2) rfl aw_742 aw_743 (x_X5_beginWith l D y ad (M4 (14 + i1.toNatClampNeg) 0) i1 (M4 (14 + i1.toNatClampNeg) 1) _ _ h) (List.mem_of_getElem? (i := 43) rfl) aw_744 aw_28 (by decide +kernel) ⟨Nat.le_of_ble_eq_true rfl, Nat.le_of_ble_eq_true rfl⟩ rfl (Nat.le_of_ble_eq_true rfl) ⟨Nat.le_of_ble_eq_true rfl, Nat.le_of_ble_eq_true rfl⟩ dX7_voice_53 ?_
      intro M8 h
      refine j_aload_n X 1 rfl rfl dX7_voice_56 ?_
      refine j_get X cl_0.1 (wE_7 _ cl_0.2) rfl awF7 4 (by decide) aw_29 rfl (v := .ref (ad 67)) rfl dX7_voice_57 ?_
      refine j_iload_n X 3 rfl rfl dX7_voice_60 ?_
      refine j_iload_n X 4 rfl rfl dX7_voice_61 ?_
      refine j_callVNI X (nn := 2) (As := [.int i2, .int i3]) (st := []) (ci := 5) cl_67.1 (wE_5 _ cl_67.2) rfl aw_749 aw_750 (x_X5_say l D y ad i2 i3 _ _ h) (List.mem_of_getElem? (i := 44) rfl) aw_751 aw_28 (by decide +kernel) ⟨Nat.le_of_ble_eq_true rfl, Nat.le_of_ble_eq_true rfl⟩ rfl (Nat.le_of_ble_eq_true rfl) ⟨Nat.le_of_ble_eq_true rfl, Nat.le_of_ble_eq_true rfl⟩ dX7_voice_62 ?_
      intro r9 M9 h
      exact j_iret X hr hlocks dX7_voice_65 h
    · replace h := h.2 q_5
      refine j_aload_n X 0 rfl rfl dX7_voice_17 ?_
      refine j_ldc X (v := (-1000000001)) aw_108 dX7_voice_18 ?_
      refine j_callVI X (nn := 1) (As := [.int (-1000000001)]) (st := []) (ci := 7) cl_0.1 (wE_7 _ cl_0.2) rfl aw_117 aw_118 (x_X7_refuse l D y ad (-1000000001) _ _ h) aw_116 aw_119 aw_2 (by decide +kernel) ⟨Nat.le_of_ble_eq_true rfl, Nat.le_of_ble_eq_true rfl⟩ rfl (Nat.le_of_ble_eq_true rfl) ⟨Nat.le_of_ble_eq_true rfl, Nat.le_of_ble_eq_true rfl⟩ dX7_voice_20 ?_
      intro r10 M10 h
      exact j_iret X hr hlocks dX7_voice_23 h
theorem dX7_trace_0 : decode cX7_trace 0 = .ok (.iload_n 1, 1) := dk_27 (by decide +kernel)
theorem dX7_trace_1 : decode cX7_trace 1 = .ok (.iconst 0, 1) := dk_3 (by decide +kernel)
theorem dX7_trace_2 : decode cX7_trace 2 = .ok (.aload_n 0, 1) := dk_42 (by decide +kernel)
theorem dX7_trace_3 : decode cX7_trace 3 = .ok (.getfield 45, 3) := dk_180 (by decide +kernel)
theorem dX7_trace_6 : decode cX7_trace 6 = .ok (.getfield 265, 3) := dk_180 (by decide +kernel)
theorem dX7_trace_9 : decode cX7_trace 9 = .ok (.iconst 1, 1) := dk_4 (by decide +kernel)
theorem dX7_trace_10 : decode cX7_trace 10 = .ok (.isub, 1) := dk_100 (by decide +kernel)
theorem dX7_trace_11 : decode cX7_trace 11 = .ok (.invokestatic 60, 3) := dk_184 (by decide +kernel)
theorem dX7_trace_14 : decode cX7_trace 14 = .ok (.ifCond .eq 15, 3) := dk_153 (by decide +kernel)
theorem dX7_trace_29 : decode cX7_trace 29 = .ok (.aload_n 0, 1) := dk_42 (by decide +kernel)
theorem dX7_trace_30 : decode cX7_trace 30 = .ok (.ldc 197, 2) := dk_18 (by decide +kernel)
theorem dX7_trace_32 : decode cX7_trace 32 = .ok (.invokevirtual 69, 3) := dk_182 (by decide +kernel)
theorem dX7_trace_35 : decode cX7_trace 35 = .ok (.ireturn, 1) := dk_172 (by decide +kernel)
theorem dX7_trace_17 : decode cX7_trace 17 = .ok (.aload_n 0, 1) := dk_42 (by decide +kernel)
theorem dX7_trace_18 : decode cX7_trace 18 = .ok (.getfield 45, 3) := dk_180 (by decide +kernel)
theorem dX7_trace_21 : decode cX7_trace 21 = .ok (.getfield 268, 3) := dk_180 (by decide +kernel)
theorem dX7_trace_24 : decode cX7_trace 24 = .ok (.iload_n 1, 1) := dk_27 (by decide +kernel)
theorem dX7_trace_25 : decode cX7_trace 25 = .ok (.iaload, 1) := dk_46 (by decide +kernel)
theorem dX7_trace_26 : decode cX7_trace 26 = .ok (.goto 9, 3) := dk_167 (by decide +kernel)
set_option maxRecDepth 100000 in
set_option maxHeartbeats 8000000 in
theorem x_X7_trace (l : Launch) (D : va_G) (y : wY) (ad : Nat → Nat) (i1 : Int32) (M : Mem) (K : Int32 → Mem → Prop) (h : wp_X7_trace i1 M K) : MI l D y ad yX7_trace (Cond.code yX7_trace cX7_trace 2 (some .int)) 1 M [.ref (ad 0), .int i1] K := by
  refine MI_of (by decide) (Nat.le_of_ble_eq_true rfl) ?_
  intro p e s m args below meth c X hr hlocks
  delta wp_X7_trace at h
  refine j_lv (lv1 := [(0, .ref (ad 0)), (1, .int i1)]) [0, 1] rfl ?_
  refine j_iload_n X 1 rfl rfl dX7_trace_0 ?_
  refine j_iconst X (v := 0) (by decide) dX7_trace_1 ?_
  refine j_aload_n X 0 rfl rfl dX7_trace_2 ?_
  refine j_get X cl_0.1 (wE_7 _ cl_0.2) rfl awF7 4 (by decide) aw_29 rfl (v := .ref (ad 67)) rfl dX7_trace_3 ?_
  refine j_getN X cl_67.1 (wE_5 _ cl_67.2) rfl awF5 1 (by decide) (List.mem_of_getElem? (i := 31) rfl) rfl (v := .int (M 67 1)) rfl dX7_trace_6 ?_
  refine j_iconst X (v := 1) (by decide) dX7_trace_9 ?_
  refine j_isub X dX7_trace_10 ?_
  refine j_callSI X (nn := 3) (As := [.int i1, .int 0, .int ((M 67 1) - 1)]) (st := []) aw_110 (x_X7_isWithin l D y ad i1 0 ((M 67 1) - 1) _ _ h) aw_109 aw_111 aw_2 (by decide +kernel) ⟨Nat.le_of_ble_eq_true rfl, Nat.le_of_ble_eq_true rfl⟩ rfl (Nat.le_of_ble_eq_true rfl) ⟨Nat.le_of_ble_eq_true rfl, Nat.le_of_ble_eq_true rfl⟩ dX7_trace_11 ?_
  intro r1 M1 h
  refine j_if_eq X 29 (by decide) dX7_trace_14 (fun q_2 => ?_) (fun q_2 => ?_)
  · replace h := h.1 q_2
    refine j_aload_n X 0 rfl rfl dX7_trace_29 ?_
    refine j_ldc X (v := (-1000000002)) aw_560 dX7_trace_30 ?_
    refine j_callVI X (nn := 1) (As := [.int (-1000000002)]) (st := []) (ci := 7) cl_0.1 (wE_7 _ cl_0.2) rfl aw_117 aw_118 (x_X7_refuse l D y ad (-1000000002) _ _ h) aw_116 aw_119 aw_2 (by decide +kernel) ⟨Nat.le_of_ble_eq_true rfl, Nat.le_of_ble_eq_true rfl⟩ rfl (Nat.le_of_ble_eq_true rfl) ⟨Nat.le_of_ble_eq_true rfl, Nat.le_of_ble_eq_true rfl⟩ dX7_trace_32 ?_
    intro r3 M3 h
    exact j_iret X hr hlocks dX7_trace_35 h
  · replace h := h.2 q_2
    refine j_aload_n X 0 rfl rfl dX7_trace_17 ?_
    refine j_get X cl_0.1 (wE_7 _ cl_0.2) rfl awF7 4 (by decide) aw_29 rfl (v := .ref (ad 67)) rfl dX7_trace_18 ?_
    refine j_getN X cl_67.1 (wE_5 _ cl_67.2) rfl awF5 0 (by decide) (List.mem_of_getElem? (i := 30) rfl) rfl (v := .ref (ad 68)) rfl dX7_trace_21 ?_
    refine j_iload_n X 1 rfl rfl dX7_trace_24 ?_
    obtain ⟨hi_4, h⟩ := h
    refine j_iald X cl_68.1 cl_68.2 hi_4 dX7_trace_25 ?_
    refine j_goto X 35 (by decide) dX7_trace_26 ?_
    exact j_iret X hr hlocks dX7_trace_35 h
