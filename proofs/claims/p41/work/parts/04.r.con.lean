theorem dX8_check_30 : decode cX8_check 30 = .ok (.iload_n 2, 1) := dk_28 (by decide +kernel)
theorem dX8_check_31 : decode cX8_check 31 = .ok (.iload_n 1, 1) := dk_27 (by decide +kernel)
theorem dX8_check_32 : decode cX8_check 32 = .ok (.if_icmp .ge 52, 3) := dk_162 (by decide +kernel)
theorem dX8_check_84 : decode cX8_check 84 = .ok (.aload_n 0, 1) := dk_42 (by decide +kernel)
theorem dX8_check_85 : decode cX8_check 85 = .ok (.aload_n 0, 1) := dk_42 (by decide +kernel)
theorem dX8_check_86 : decode cX8_check 86 = .ok (.getfield 16, 3) := dk_180 (by decide +kernel)
theorem dX8_check_89 : decode cX8_check 89 = .ok (.aload_n 0, 1) := dk_42 (by decide +kernel)
theorem dX8_check_90 : decode cX8_check 90 = .ok (.getfield 7, 3) := dk_180 (by decide +kernel)
theorem dX8_check_93 : decode cX8_check 93 = .ok (.invokevirtual 175, 3) := dk_182 (by decide +kernel)
theorem dX8_check_96 : decode cX8_check 96 = .ok (.iload_n 3, 1) := dk_29 (by decide +kernel)
theorem dX8_check_97 : decode cX8_check 97 = .ok (.ifCond .eq 7, 3) := dk_153 (by decide +kernel)
theorem dX8_check_104 : decode cX8_check 104 = .ok (.iconst 1, 1) := dk_4 (by decide +kernel)
theorem dX8_check_105 : decode cX8_check 105 = .ok (.iload_n 2, 1) := dk_28 (by decide +kernel)
theorem dX8_check_106 : decode cX8_check 106 = .ok (.iadd, 1) := dk_96 (by decide +kernel)
theorem dX8_check_107 : decode cX8_check 107 = .ok (.ireturn, 1) := dk_172 (by decide +kernel)
theorem dX8_check_100 : decode cX8_check 100 = .ok (.iconst 0, 1) := dk_3 (by decide +kernel)
theorem dX8_check_101 : decode cX8_check 101 = .ok (.goto 6, 3) := dk_167 (by decide +kernel)
theorem dX8_check_35 : decode cX8_check 35 = .ok (.iload_n 3, 1) := dk_29 (by decide +kernel)
theorem dX8_check_36 : decode cX8_check 36 = .ok (.ifCond .eq 48, 3) := dk_153 (by decide +kernel)
theorem dX8_check_39 : decode cX8_check 39 = .ok (.aload_n 0, 1) := dk_42 (by decide +kernel)
theorem dX8_check_40 : decode cX8_check 40 = .ok (.iconst 1, 1) := dk_4 (by decide +kernel)
theorem dX8_check_41 : decode cX8_check 41 = .ok (.invokevirtual 171, 3) := dk_182 (by decide +kernel)
theorem dX8_check_44 : decode cX8_check 44 = .ok (.aload_n 0, 1) := dk_42 (by decide +kernel)
theorem dX8_check_45 : decode cX8_check 45 = .ok (.invokevirtual 182, 3) := dk_182 (by decide +kernel)
theorem dX8_check_48 : decode cX8_check 48 = .ok (.invokestatic 187, 3) := dk_184 (by decide +kernel)
theorem dX8_check_51 : decode cX8_check 51 = .ok (.aload_n 0, 1) := dk_42 (by decide +kernel)
theorem dX8_check_52 : decode cX8_check 52 = .ok (.getfield 7, 3) := dk_180 (by decide +kernel)
theorem dX8_check_55 : decode cX8_check 55 = .ok (.bipush 124, 2) := dk_16 (by decide +kernel)
theorem dX8_check_57 : decode cX8_check 57 = .ok (.iload_n 2, 1) := dk_28 (by decide +kernel)
theorem dX8_check_58 : decode cX8_check 58 = .ok (.iadd, 1) := dk_96 (by decide +kernel)
theorem dX8_check_59 : decode cX8_check 59 = .ok (.iaload, 1) := dk_46 (by decide +kernel)
theorem dX8_check_60 : decode cX8_check 60 = .ok (.if_icmp .ne 7, 3) := dk_160 (by decide +kernel)
theorem dX8_check_67 : decode cX8_check 67 = .ok (.iconst 0, 1) := dk_3 (by decide +kernel)
theorem dX8_check_68 : decode cX8_check 68 = .ok (.istore_n 3, 1) := dk_62 (by decide +kernel)
theorem dX8_check_69 : decode cX8_check 69 = .ok (.iload_n 2, 1) := dk_28 (by decide +kernel)
theorem dX8_check_70 : decode cX8_check 70 = .ok (.iload_n 3, 1) := dk_29 (by decide +kernel)
theorem dX8_check_71 : decode cX8_check 71 = .ok (.ifCond .eq 7, 3) := dk_153 (by decide +kernel)
theorem dX8_check_78 : decode cX8_check 78 = .ok (.iconst 0, 1) := dk_3 (by decide +kernel)
theorem dX8_check_79 : decode cX8_check 79 = .ok (.iadd, 1) := dk_96 (by decide +kernel)
theorem dX8_check_80 : decode cX8_check 80 = .ok (.istore_n 2, 1) := dk_61 (by decide +kernel)
theorem dX8_check_81 : decode cX8_check 81 = .ok (.goto (-51), 3) := dk_167 (by decide +kernel)
theorem dX8_check_63 : decode cX8_check 63 = .ok (.iconst 1, 1) := dk_4 (by decide +kernel)
theorem dX8_check_64 : decode cX8_check 64 = .ok (.goto 4, 3) := dk_167 (by decide +kernel)
theorem dX8_check_74 : decode cX8_check 74 = .ok (.iconst 1, 1) := dk_4 (by decide +kernel)
theorem dX8_check_75 : decode cX8_check 75 = .ok (.goto 4, 3) := dk_167 (by decide +kernel)
theorem dX8_check_0 : decode cX8_check 0 = .ok (.aload_n 0, 1) := dk_42 (by decide +kernel)
theorem dX8_check_1 : decode cX8_check 1 = .ok (.getfield 7, 3) := dk_180 (by decide +kernel)
theorem dX8_check_4 : decode cX8_check 4 = .ok (.iconst 4, 1) := dk_7 (by decide +kernel)
theorem dX8_check_5 : decode cX8_check 5 = .ok (.iaload, 1) := dk_46 (by decide +kernel)
theorem dX8_check_6 : decode cX8_check 6 = .ok (.istore_n 1, 1) := dk_60 (by decide +kernel)
theorem dX8_check_7 : decode cX8_check 7 = .ok (.aload_n 0, 1) := dk_42 (by decide +kernel)
theorem dX8_check_8 : decode cX8_check 8 = .ok (.getfield 7, 3) := dk_180 (by decide +kernel)
theorem dX8_check_11 : decode cX8_check 11 = .ok (.iconst 4, 1) := dk_7 (by decide +kernel)
theorem dX8_check_12 : decode cX8_check 12 = .ok (.iconst 0, 1) := dk_3 (by decide +kernel)
theorem dX8_check_13 : decode cX8_check 13 = .ok (.iastore, 1) := dk_79 (by decide +kernel)
theorem dX8_check_14 : decode cX8_check 14 = .ok (.aload_n 0, 1) := dk_42 (by decide +kernel)
theorem dX8_check_15 : decode cX8_check 15 = .ok (.aload_n 0, 1) := dk_42 (by decide +kernel)
theorem dX8_check_16 : decode cX8_check 16 = .ok (.getfield 7, 3) := dk_180 (by decide +kernel)
theorem dX8_check_19 : decode cX8_check 19 = .ok (.aload_n 0, 1) := dk_42 (by decide +kernel)
theorem dX8_check_20 : decode cX8_check 20 = .ok (.getfield 16, 3) := dk_180 (by decide +kernel)
theorem dX8_check_23 : decode cX8_check 23 = .ok (.invokevirtual 175, 3) := dk_182 (by decide +kernel)
theorem dX8_check_26 : decode cX8_check 26 = .ok (.iconst 0, 1) := dk_3 (by decide +kernel)
theorem dX8_check_27 : decode cX8_check 27 = .ok (.istore_n 2, 1) := dk_61 (by decide +kernel)
theorem dX8_check_28 : decode cX8_check 28 = .ok (.iconst 1, 1) := dk_4 (by decide +kernel)
theorem dX8_check_29 : decode cX8_check 29 = .ok (.istore_n 3, 1) := dk_62 (by decide +kernel)
set_option maxRecDepth 100000 in
set_option maxHeartbeats 8000000 in
theorem x_X8_check (l : Launch) (D : va_G) (y : wY) (ad : Nat → Nat) (M : Mem) (K : Int32 → Mem → Prop) (h : wp_X8_check M K) : MI l D y ad yX8_check (Cond.code yX8_check cX8_check 4 (some .int)) 6 M [.ref (ad 79)] K := by
  refine MI_of (by decide) (Nat.le_of_ble_eq_true rfl) ?_
  intro p e s m args below meth c X hr hlocks
  have hL30 : ∀ (i1 : Int32) (n : Nat) (i2 : Int32) (i3 : Int32) (Mb : Mem), wp_X8_check_L30 K i1 n i2 i3 Mb → J p l e (rmN 6) s m args below meth c 0 0 (QI K D y ad M s args below) D y ad (va_A (PL y ad M) s.heap.size) 4 Mb 30 [(0, .ref (ad 79)), (1, .int i1), (2, .int i2), (3, .int i3)] [] := by
    intro i1 n
    induction n with
    | zero => intro i2 i3 Mb h; exact False.elim h
    | succ n hB30 =>
      intro i2 i3 Mb h
      replace h : wp_X8_check_l30 K i1 (wp_X8_check_L30 K i1 n) i2 i3 Mb := h
      delta wp_X8_check_l30 at h
      refine j_iload_n X 2 rfl rfl dX8_check_30 ?_
      refine j_iload_n X 1 rfl rfl dX8_check_31 ?_
      refine j_icmp_ge X 84 (by decide) dX8_check_32 (fun q_3001 => ?_) (fun q_3001 => ?_)
      · replace h := h.1 q_3001
        refine j_aload_n X 0 rfl rfl dX8_check_84 ?_
        refine j_aload_n X 0 rfl rfl dX8_check_85 ?_
        refine j_get X cl_79.1 (wE_8 _ cl_79.2) rfl awF8 2 (by decide) aw_94 rfl (v := .ref (ad 82)) rfl dX8_check_86 ?_
        refine j_aload_n X 0 rfl rfl dX8_check_89 ?_
        refine j_get X cl_79.1 (wE_8 _ cl_79.2) rfl awF8 0 (by decide) aw_92 rfl (v := .ref (ad 80)) rfl dX8_check_90 ?_
        refine j_callVV X (nn := 2) (As := [.ref (ad 82), .ref (ad 80)]) (st := []) (ci := 8) cl_79.1 (wE_8 _ cl_79.2) rfl aw_553 aw_554 (x_X8_moveAll l D y ad 82 80 cl_82 cl_80 _ _ h) aw_552 aw_555 aw_5 (by decide +kernel) ⟨Nat.le_of_ble_eq_true rfl, Nat.le_of_ble_eq_true rfl⟩ rfl (Nat.le_of_ble_eq_true rfl) ⟨Nat.le_of_ble_eq_true rfl, Nat.le_of_ble_eq_true rfl⟩ dX8_check_93 ?_
        intro M3002 h
        refine j_iload_n X 3 rfl rfl dX8_check_96 ?_
        refine j_if_eq X 104 (by decide) dX8_check_97 (fun q_3003 => ?_) (fun q_3003 => ?_)
        · replace h := h.1 q_3003
          refine j_iconst X (v := 1) (by decide) dX8_check_104 ?_
          refine j_iload_n X 2 rfl rfl dX8_check_105 ?_
          refine j_iadd X dX8_check_106 ?_
          exact j_iret X hr hlocks dX8_check_107 h
        · replace h := h.2 q_3003
          refine j_iconst X (v := 0) (by decide) dX8_check_100 ?_
          refine j_goto X 107 (by decide) dX8_check_101 ?_
          exact j_iret X hr hlocks dX8_check_107 h
      · replace h := h.2 q_3001
        refine j_iload_n X 3 rfl rfl dX8_check_35 ?_
        refine j_if_eq X 84 (by decide) dX8_check_36 (fun q_3004 => ?_) (fun q_3004 => ?_)
        · replace h := h.1 q_3004
          refine j_aload_n X 0 rfl rfl dX8_check_84 ?_
          refine j_aload_n X 0 rfl rfl dX8_check_85 ?_
          refine j_get X cl_79.1 (wE_8 _ cl_79.2) rfl awF8 2 (by decide) aw_94 rfl (v := .ref (ad 82)) rfl dX8_check_86 ?_
          refine j_aload_n X 0 rfl rfl dX8_check_89 ?_
          refine j_get X cl_79.1 (wE_8 _ cl_79.2) rfl awF8 0 (by decide) aw_92 rfl (v := .ref (ad 80)) rfl dX8_check_90 ?_
          refine j_callVV X (nn := 2) (As := [.ref (ad 82), .ref (ad 80)]) (st := []) (ci := 8) cl_79.1 (wE_8 _ cl_79.2) rfl aw_553 aw_554 (x_X8_moveAll l D y ad 82 80 cl_82 cl_80 _ _ h) aw_552 aw_555 aw_5 (by decide +kernel) ⟨Nat.le_of_ble_eq_true rfl, Nat.le_of_ble_eq_true rfl⟩ rfl (Nat.le_of_ble_eq_true rfl) ⟨Nat.le_of_ble_eq_true rfl, Nat.le_of_ble_eq_true rfl⟩ dX8_check_93 ?_
          intro M3005 h
          refine j_iload_n X 3 rfl rfl dX8_check_96 ?_
          refine j_if_eq X 104 (by decide) dX8_check_97 (fun q_3006 => ?_) (fun q_3006 => ?_)
          · replace h := h.1 q_3006
            refine j_iconst X (v := 1) (by decide) dX8_check_104 ?_
            refine j_iload_n X 2 rfl rfl dX8_check_105 ?_
            refine j_iadd X dX8_check_106 ?_
            exact j_iret X hr hlocks dX8_check_107 h
          · replace h := h.2 q_3006
            refine j_iconst X (v := 0) (by decide) dX8_check_100 ?_
            refine j_goto X 107 (by decide) dX8_check_101 ?_
            exact j_iret X hr hlocks dX8_check_107 h
        · replace h := h.2 q_3004
          refine j_aload_n X 0 rfl rfl dX8_check_39 ?_
          refine j_iconst X (v := 1) (by decide) dX8_check_40 ?_
          refine j_callVV X (nn := 1) (As := [.int 1]) (st := []) (ci := 8) cl_79.1 (wE_8 _ cl_79.2) rfl aw_486 aw_487 (x_X8_oneDay l D y ad 1 _ _ h) aw_485 aw_488 aw_5 (by decide +kernel) ⟨Nat.le_of_ble_eq_true rfl, Nat.le_of_ble_eq_true rfl⟩ rfl (Nat.le_of_ble_eq_true rfl) ⟨Nat.le_of_ble_eq_true rfl, Nat.le_of_ble_eq_true rfl⟩ dX8_check_41 ?_
          intro M3007 h
          refine j_aload_n X 0 rfl rfl dX8_check_44 ?_
          refine j_callVI X (nn := 0) (As := []) (st := []) (ci := 8) cl_79.1 (wE_8 _ cl_79.2) rfl aw_506 aw_507 (x_X8_overSet l D y ad  _ _ h) aw_505 aw_508 aw_5 (by decide +kernel) ⟨Nat.le_of_ble_eq_true rfl, Nat.le_of_ble_eq_true rfl⟩ rfl (Nat.le_of_ble_eq_true rfl) ⟨Nat.le_of_ble_eq_true rfl, Nat.le_of_ble_eq_true rfl⟩ dX8_check_45 ?_
          intro r3008 M3008 h
          refine j_callSI X (nn := 1) (As := [.int r3008]) (st := []) aw_510 (x_X8_bits l D y ad r3008 _ _ h) aw_509 aw_511 aw_5 (by decide +kernel) ⟨Nat.le_of_ble_eq_true rfl, Nat.le_of_ble_eq_true rfl⟩ rfl (Nat.le_of_ble_eq_true rfl) ⟨Nat.le_of_ble_eq_true rfl, Nat.le_of_ble_eq_true rfl⟩ dX8_check_48 ?_
          intro r3009 M3009 h
          refine j_aload_n X 0 rfl rfl dX8_check_51 ?_
          refine j_get X cl_79.1 (wE_8 _ cl_79.2) rfl awF8 0 (by decide) aw_92 rfl (v := .ref (ad 80)) rfl dX8_check_52 ?_
          refine j_bipush X (v := 124) (by decide) dX8_check_55 ?_
          refine j_iload_n X 2 rfl rfl dX8_check_57 ?_
          refine j_iadd X dX8_check_58 ?_
          obtain ⟨hi_3010, h⟩ := h
          refine j_iald X cl_80.1 cl_80.2 hi_3010 dX8_check_59 ?_
          refine j_icmp_ne X 67 (by decide) dX8_check_60 (fun q_3011 => ?_) (fun q_3011 => ?_)
          · replace h := h.1 q_3011
            refine j_iconst X (v := 0) (by decide) dX8_check_67 ?_
            refine j_istore_n X [(3, .int 0), (0, .ref (ad 79)), (1, .int i1), (2, .int i2)] rfl (by decide) rfl dX8_check_68 ?_
            refine j_iload_n X 3 rfl rfl dX8_check_69 ?_
            refine j_iload_n X 0 rfl rfl dX8_check_70 ?_
            refine j_if_eq X 78 (by decide) dX8_check_71 (fun _ => ?_) (fun q_3012 => False.elim (by revert q_3012; decide))
            refine j_iconst X (v := 0) (by decide) dX8_check_78 ?_
            refine j_iadd X dX8_check_79 ?_
            refine j_istore_n X [(2, .int (i2 + 0)), (3, .int 0), (0, .ref (ad 79)), (1, .int i1)] rfl (by decide) rfl dX8_check_80 ?_
            refine j_goto X 30 (by decide) dX8_check_81 ?_
            refine j_lv (lv1 := [(0, .ref (ad 79)), (1, .int i1), (2, .int (i2 + 0)), (3, .int 0)]) [2, 3, 0, 1] rfl ?_
            exact hB30 _ _ _ h
          · replace h := h.2 q_3011
            refine j_iconst X (v := 1) (by decide) dX8_check_63 ?_
            refine j_goto X 68 (by decide) dX8_check_64 ?_
            refine j_istore_n X [(3, .int 1), (0, .ref (ad 79)), (1, .int i1), (2, .int i2)] rfl (by decide) rfl dX8_check_68 ?_
            refine j_iload_n X 3 rfl rfl dX8_check_69 ?_
            refine j_iload_n X 0 rfl rfl dX8_check_70 ?_
            refine j_if_eq X 78 (by decide) dX8_check_71 (fun q_3013 => False.elim (by revert q_3013; decide)) (fun _ => ?_)
            refine j_iconst X (v := 1) (by decide) dX8_check_74 ?_
            refine j_goto X 79 (by decide) dX8_check_75 ?_
            refine j_iadd X dX8_check_79 ?_
            refine j_istore_n X [(2, .int (i2 + 1)), (3, .int 1), (0, .ref (ad 79)), (1, .int i1)] rfl (by decide) rfl dX8_check_80 ?_
            refine j_goto X 30 (by decide) dX8_check_81 ?_
            refine j_lv (lv1 := [(0, .ref (ad 79)), (1, .int i1), (2, .int (i2 + 1)), (3, .int 1)]) [2, 3, 0, 1] rfl ?_
            exact hB30 _ _ _ h
  delta wp_X8_check at h
  refine j_lv (lv1 := [(0, .ref (ad 79))]) [0] rfl ?_
  refine j_aload_n X 0 rfl rfl dX8_check_0 ?_
  refine j_get X cl_79.1 (wE_8 _ cl_79.2) rfl awF8 0 (by decide) aw_92 rfl (v := .ref (ad 80)) rfl dX8_check_1 ?_
  refine j_iconst X (v := 4) (by decide) dX8_check_4 ?_
  refine j_iald X cl_80.1 cl_80.2 (by unfold vp_in; decide) dX8_check_5 ?_
  refine j_eqi (v := M 80 4) rfl ?_
  refine j_istore_n X [(1, .int (M 80 4)), (0, .ref (ad 79))] rfl (by decide) rfl dX8_check_6 ?_
  refine j_aload_n X 1 rfl rfl dX8_check_7 ?_
  refine j_get X cl_79.1 (wE_8 _ cl_79.2) rfl awF8 0 (by decide) aw_92 rfl (v := .ref (ad 80)) rfl dX8_check_8 ?_
  refine j_iconst X (v := 4) (by decide) dX8_check_11 ?_
  refine j_iconst X (v := 0) (by decide) dX8_check_12 ?_
  refine j_iast X cl_80.1 cl_80.2 (by unfold vp_in; decide) dX8_check_13 ?_
  refine j_eqM (M1 := (up M 80 4 0)) rfl ?_
  refine j_aload_n X 1 rfl rfl dX8_check_14 ?_
  refine j_aload_n X 1 rfl rfl dX8_check_15 ?_
  refine j_get X cl_79.1 (wE_8 _ cl_79.2) rfl awF8 0 (by decide) aw_92 rfl (v := .ref (ad 80)) rfl dX8_check_16 ?_
  refine j_aload_n X 1 rfl rfl dX8_check_19 ?_
  refine j_get X cl_79.1 (wE_8 _ cl_79.2) rfl awF8 2 (by decide) aw_94 rfl (v := .ref (ad 82)) rfl dX8_check_20 ?_
  refine j_callVV X (nn := 2) (As := [.ref (ad 80), .ref (ad 82)]) (st := []) (ci := 8) cl_79.1 (wE_8 _ cl_79.2) rfl aw_553 aw_554 (x_X8_moveAll l D y ad 80 82 cl_80 cl_82 _ _ h) aw_552 aw_555 aw_5 (by decide +kernel) ⟨Nat.le_of_ble_eq_true rfl, Nat.le_of_ble_eq_true rfl⟩ rfl (Nat.le_of_ble_eq_true rfl) ⟨Nat.le_of_ble_eq_true rfl, Nat.le_of_ble_eq_true rfl⟩ dX8_check_23 ?_
  intro M1 h
  refine j_iconst X (v := 0) (by decide) dX8_check_26 ?_
  refine j_istore_n X [(2, .int 0), (1, .int (M 80 4)), (0, .ref (ad 79))] rfl (by decide) rfl dX8_check_27 ?_
  refine j_iconst X (v := 1) (by decide) dX8_check_28 ?_
  refine j_istore_n X [(3, .int 1), (2, .int 0), (1, .int (M 80 4)), (0, .ref (ad 79))] rfl (by decide) rfl dX8_check_29 ?_
  refine j_lv (lv1 := [(0, .ref (ad 79)), (1, .int (M 80 4)), (2, .int 0), (3, .int 1)]) [3, 2, 1, 0] rfl ?_
  obtain ⟨n30, h⟩ := h
  exact hL30 _   n30 _ _ _ h
theorem dX8_edgesOfAll_4 : decode cX8_edgesOfAll 4 = .ok (.iload_n 2, 1) := dk_28 (by decide +kernel)
theorem dX8_edgesOfAll_5 : decode cX8_edgesOfAll 5 = .ok (.aload_n 0, 1) := dk_42 (by decide +kernel)
theorem dX8_edgesOfAll_6 : decode cX8_edgesOfAll 6 = .ok (.getfield 7, 3) := dk_180 (by decide +kernel)
theorem dX8_edgesOfAll_9 : decode cX8_edgesOfAll 9 = .ok (.iconst 2, 1) := dk_5 (by decide +kernel)
theorem dX8_edgesOfAll_10 : decode cX8_edgesOfAll 10 = .ok (.iaload, 1) := dk_46 (by decide +kernel)
theorem dX8_edgesOfAll_11 : decode cX8_edgesOfAll 11 = .ok (.if_icmp .ge 18, 3) := dk_162 (by decide +kernel)
theorem dX8_edgesOfAll_29 : decode cX8_edgesOfAll 29 = .ok (.iload_n 1, 1) := dk_27 (by decide +kernel)
theorem dX8_edgesOfAll_30 : decode cX8_edgesOfAll 30 = .ok (.ireturn, 1) := dk_172 (by decide +kernel)
theorem dX8_edgesOfAll_14 : decode cX8_edgesOfAll 14 = .ok (.iload_n 1, 1) := dk_27 (by decide +kernel)
theorem dX8_edgesOfAll_15 : decode cX8_edgesOfAll 15 = .ok (.aload_n 0, 1) := dk_42 (by decide +kernel)
theorem dX8_edgesOfAll_16 : decode cX8_edgesOfAll 16 = .ok (.iload_n 2, 1) := dk_28 (by decide +kernel)
theorem dX8_edgesOfAll_17 : decode cX8_edgesOfAll 17 = .ok (.iconst 3, 1) := dk_6 (by decide +kernel)
theorem dX8_edgesOfAll_18 : decode cX8_edgesOfAll 18 = .ok (.invokevirtual 65, 3) := dk_182 (by decide +kernel)
theorem dX8_edgesOfAll_21 : decode cX8_edgesOfAll 21 = .ok (.iadd, 1) := dk_96 (by decide +kernel)
theorem dX8_edgesOfAll_22 : decode cX8_edgesOfAll 22 = .ok (.istore_n 1, 1) := dk_60 (by decide +kernel)
theorem dX8_edgesOfAll_23 : decode cX8_edgesOfAll 23 = .ok (.iinc 2 1, 3) := dk_132 (by decide +kernel)
theorem dX8_edgesOfAll_26 : decode cX8_edgesOfAll 26 = .ok (.goto (-22), 3) := dk_167 (by decide +kernel)
theorem dX8_edgesOfAll_0 : decode cX8_edgesOfAll 0 = .ok (.iconst 0, 1) := dk_3 (by decide +kernel)
theorem dX8_edgesOfAll_1 : decode cX8_edgesOfAll 1 = .ok (.istore_n 1, 1) := dk_60 (by decide +kernel)
theorem dX8_edgesOfAll_2 : decode cX8_edgesOfAll 2 = .ok (.iconst 0, 1) := dk_3 (by decide +kernel)
theorem dX8_edgesOfAll_3 : decode cX8_edgesOfAll 3 = .ok (.istore_n 2, 1) := dk_61 (by decide +kernel)
set_option maxRecDepth 100000 in
set_option maxHeartbeats 8000000 in
theorem x_X8_edgesOfAll (l : Launch) (D : va_G) (y : wY) (ad : Nat → Nat) (M : Mem) (K : Int32 → Mem → Prop) (h : wp_X8_edgesOfAll M K) : MI l D y ad yX8_edgesOfAll (Cond.code yX8_edgesOfAll cX8_edgesOfAll 3 (some .int)) 1 M [.ref (ad 79)] K := by
  refine MI_of (by decide) (Nat.le_of_ble_eq_true rfl) ?_
  intro p e s m args below meth c X hr hlocks
  have hL4 : ∀ (n : Nat) (i1 : Int32) (i2 : Int32) (Mb : Mem), wp_X8_edgesOfAll_L4 K n i1 i2 Mb → J p l e (rmN 1) s m args below meth c 0 0 (QI K D y ad M s args below) D y ad (va_A (PL y ad M) s.heap.size) 3 Mb 4 [(0, .ref (ad 79)), (1, .int i1), (2, .int i2)] [] := by
    intro n
    induction n with
    | zero => intro i1 i2 Mb h; exact False.elim h
    | succ n hB4 =>
      intro i1 i2 Mb h
      replace h : wp_X8_edgesOfAll_l4 K (wp_X8_edgesOfAll_L4 K n) i1 i2 Mb := h
      delta wp_X8_edgesOfAll_l4 at h
      refine j_iload_n X 2 rfl rfl dX8_edgesOfAll_4 ?_
      refine j_aload_n X 0 rfl rfl dX8_edgesOfAll_5 ?_
      refine j_get X cl_79.1 (wE_8 _ cl_79.2) rfl awF8 0 (by decide) aw_92 rfl (v := .ref (ad 80)) rfl dX8_edgesOfAll_6 ?_
      refine j_iconst X (v := 2) (by decide) dX8_edgesOfAll_9 ?_
      refine j_iald X cl_80.1 cl_80.2 (by unfold vp_in; decide) dX8_edgesOfAll_10 ?_
      refine j_eqi (v := Mb 80 2) rfl ?_
      refine j_icmp_ge X 29 (by decide) dX8_edgesOfAll_11 (fun q_401 => ?_) (fun q_401 => ?_)
      · replace h := h.1 q_401
        refine j_iload_n X 1 rfl rfl dX8_edgesOfAll_29 ?_
        exact j_iret X hr hlocks dX8_edgesOfAll_30 h
      · replace h := h.2 q_401
        refine j_iload_n X 1 rfl rfl dX8_edgesOfAll_14 ?_
        refine j_aload_n X 0 rfl rfl dX8_edgesOfAll_15 ?_
        refine j_iload_n X 2 rfl rfl dX8_edgesOfAll_16 ?_
        refine j_iconst X (v := 3) (by decide) dX8_edgesOfAll_17 ?_
        refine j_callVI X (nn := 2) (As := [.int i2, .int 3]) (st := [.int i1]) (ci := 8) cl_79.1 (wE_8 _ cl_79.2) rfl aw_161 aw_162 (x_X8_its l D y ad i2 3 _ _ h) aw_160 aw_163 aw_5 (by decide +kernel) ⟨Nat.le_of_ble_eq_true rfl, Nat.le_of_ble_eq_true rfl⟩ rfl (Nat.le_of_ble_eq_true rfl) ⟨Nat.le_of_ble_eq_true rfl, Nat.le_of_ble_eq_true rfl⟩ dX8_edgesOfAll_18 ?_
        intro r402 M402 h
        refine j_iadd X dX8_edgesOfAll_21 ?_
        refine j_istore_n X [(1, .int (i1 + r402)), (0, .ref (ad 79)), (2, .int i2)] rfl (by decide) rfl dX8_edgesOfAll_22 ?_
        refine j_iinc X (v := (i2 + 1)) 2 [(2, .int (i2 + 1)), (1, .int (i1 + r402)), (0, .ref (ad 79))] rfl rfl (by decide) rfl dX8_edgesOfAll_23 ?_
        refine j_goto X 4 (by decide) dX8_edgesOfAll_26 ?_
        refine j_lv (lv1 := [(0, .ref (ad 79)), (1, .int (i1 + r402)), (2, .int (i2 + 1))]) [2, 1, 0] rfl ?_
        exact hB4 _ _ _ h
  delta wp_X8_edgesOfAll at h
  refine j_lv (lv1 := [(0, .ref (ad 79))]) [0] rfl ?_
  refine j_iconst X (v := 0) (by decide) dX8_edgesOfAll_0 ?_
  refine j_istore_n X [(1, .int 0), (0, .ref (ad 79))] rfl (by decide) rfl dX8_edgesOfAll_1 ?_
  refine j_iconst X (v := 0) (by decide) dX8_edgesOfAll_2 ?_
  refine j_istore_n X [(2, .int 0), (1, .int 0), (0, .ref (ad 79))] rfl (by decide) rfl dX8_edgesOfAll_3 ?_
  refine j_lv (lv1 := [(0, .ref (ad 79)), (1, .int 0), (2, .int 0)]) [2, 1, 0] rfl ?_
  obtain ⟨n4, h⟩ := h
  exact hL4    n4 _ _ _ h
theorem dX8_count_0 : decode cX8_count 0 = .ok (.iload_n 1, 1) := dk_27 (by decide +kernel)
theorem dX8_count_1 : decode cX8_count 1 = .ok (.tableswitch 145 0 11 #[63, 70, 77, 85, 93, 101, 109, 114, 119, 126, 133, 138], 63) := by decide +kernel
theorem dX8_count_64 : decode cX8_count 64 = .ok (.aload_n 0, 1) := dk_42 (by decide +kernel)
theorem dX8_count_65 : decode cX8_count 65 = .ok (.getfield 7, 3) := dk_180 (by decide +kernel)
theorem dX8_count_68 : decode cX8_count 68 = .ok (.iconst 2, 1) := dk_5 (by decide +kernel)
theorem dX8_count_69 : decode cX8_count 69 = .ok (.iaload, 1) := dk_46 (by decide +kernel)
theorem dX8_count_70 : decode cX8_count 70 = .ok (.ireturn, 1) := dk_172 (by decide +kernel)
theorem dX8_count_71 : decode cX8_count 71 = .ok (.aload_n 0, 1) := dk_42 (by decide +kernel)
theorem dX8_count_72 : decode cX8_count 72 = .ok (.getfield 7, 3) := dk_180 (by decide +kernel)
theorem dX8_count_75 : decode cX8_count 75 = .ok (.iconst 0, 1) := dk_3 (by decide +kernel)
theorem dX8_count_76 : decode cX8_count 76 = .ok (.iaload, 1) := dk_46 (by decide +kernel)
theorem dX8_count_77 : decode cX8_count 77 = .ok (.ireturn, 1) := dk_172 (by decide +kernel)
theorem dX8_count_78 : decode cX8_count 78 = .ok (.aload_n 0, 1) := dk_42 (by decide +kernel)
theorem dX8_count_79 : decode cX8_count 79 = .ok (.getfield 7, 3) := dk_180 (by decide +kernel)
theorem dX8_count_82 : decode cX8_count 82 = .ok (.bipush 7, 2) := dk_16 (by decide +kernel)
theorem dX8_count_84 : decode cX8_count 84 = .ok (.iaload, 1) := dk_46 (by decide +kernel)
theorem dX8_count_85 : decode cX8_count 85 = .ok (.ireturn, 1) := dk_172 (by decide +kernel)
theorem dX8_count_86 : decode cX8_count 86 = .ok (.aload_n 0, 1) := dk_42 (by decide +kernel)
theorem dX8_count_87 : decode cX8_count 87 = .ok (.getfield 7, 3) := dk_180 (by decide +kernel)
theorem dX8_count_90 : decode cX8_count 90 = .ok (.bipush 8, 2) := dk_16 (by decide +kernel)
theorem dX8_count_92 : decode cX8_count 92 = .ok (.iaload, 1) := dk_46 (by decide +kernel)
theorem dX8_count_93 : decode cX8_count 93 = .ok (.ireturn, 1) := dk_172 (by decide +kernel)
theorem dX8_count_94 : decode cX8_count 94 = .ok (.aload_n 0, 1) := dk_42 (by decide +kernel)
theorem dX8_count_95 : decode cX8_count 95 = .ok (.getfield 7, 3) := dk_180 (by decide +kernel)
theorem dX8_count_98 : decode cX8_count 98 = .ok (.bipush 9, 2) := dk_16 (by decide +kernel)
theorem dX8_count_100 : decode cX8_count 100 = .ok (.iaload, 1) := dk_46 (by decide +kernel)
theorem dX8_count_101 : decode cX8_count 101 = .ok (.ireturn, 1) := dk_172 (by decide +kernel)
theorem dX8_count_102 : decode cX8_count 102 = .ok (.aload_n 0, 1) := dk_42 (by decide +kernel)
theorem dX8_count_103 : decode cX8_count 103 = .ok (.getfield 7, 3) := dk_180 (by decide +kernel)
theorem dX8_count_106 : decode cX8_count 106 = .ok (.bipush 10, 2) := dk_16 (by decide +kernel)
theorem dX8_count_108 : decode cX8_count 108 = .ok (.iaload, 1) := dk_46 (by decide +kernel)
theorem dX8_count_109 : decode cX8_count 109 = .ok (.ireturn, 1) := dk_172 (by decide +kernel)
theorem dX8_count_110 : decode cX8_count 110 = .ok (.aload_n 0, 1) := dk_42 (by decide +kernel)
theorem dX8_count_111 : decode cX8_count 111 = .ok (.invokevirtual 182, 3) := dk_182 (by decide +kernel)
theorem dX8_count_114 : decode cX8_count 114 = .ok (.ireturn, 1) := dk_172 (by decide +kernel)
theorem dX8_count_115 : decode cX8_count 115 = .ok (.aload_n 0, 1) := dk_42 (by decide +kernel)
theorem dX8_count_116 : decode cX8_count 116 = .ok (.invokevirtual 250, 3) := dk_182 (by decide +kernel)
theorem dX8_count_119 : decode cX8_count 119 = .ok (.ireturn, 1) := dk_172 (by decide +kernel)
theorem dX8_count_120 : decode cX8_count 120 = .ok (.aload_n 0, 1) := dk_42 (by decide +kernel)
theorem dX8_count_121 : decode cX8_count 121 = .ok (.getfield 7, 3) := dk_180 (by decide +kernel)
theorem dX8_count_124 : decode cX8_count 124 = .ok (.iconst 3, 1) := dk_6 (by decide +kernel)
theorem dX8_count_125 : decode cX8_count 125 = .ok (.iaload, 1) := dk_46 (by decide +kernel)
theorem dX8_count_126 : decode cX8_count 126 = .ok (.ireturn, 1) := dk_172 (by decide +kernel)
theorem dX8_count_127 : decode cX8_count 127 = .ok (.aload_n 0, 1) := dk_42 (by decide +kernel)
theorem dX8_count_128 : decode cX8_count 128 = .ok (.getfield 7, 3) := dk_180 (by decide +kernel)
theorem dX8_count_131 : decode cX8_count 131 = .ok (.iconst 4, 1) := dk_7 (by decide +kernel)
theorem dX8_count_132 : decode cX8_count 132 = .ok (.iaload, 1) := dk_46 (by decide +kernel)
theorem dX8_count_133 : decode cX8_count 133 = .ok (.ireturn, 1) := dk_172 (by decide +kernel)
theorem dX8_count_134 : decode cX8_count 134 = .ok (.aload_n 0, 1) := dk_42 (by decide +kernel)
theorem dX8_count_135 : decode cX8_count 135 = .ok (.getfield 214, 3) := dk_180 (by decide +kernel)
theorem dX8_count_138 : decode cX8_count 138 = .ok (.ireturn, 1) := dk_172 (by decide +kernel)
theorem dX8_count_139 : decode cX8_count 139 = .ok (.aload_n 0, 1) := dk_42 (by decide +kernel)
theorem dX8_count_140 : decode cX8_count 140 = .ok (.getfield 7, 3) := dk_180 (by decide +kernel)
theorem dX8_count_143 : decode cX8_count 143 = .ok (.iconst 1, 1) := dk_4 (by decide +kernel)
theorem dX8_count_144 : decode cX8_count 144 = .ok (.iaload, 1) := dk_46 (by decide +kernel)
theorem dX8_count_145 : decode cX8_count 145 = .ok (.ireturn, 1) := dk_172 (by decide +kernel)
theorem dX8_count_146 : decode cX8_count 146 = .ok (.aload_n 0, 1) := dk_42 (by decide +kernel)
theorem dX8_count_147 : decode cX8_count 147 = .ok (.ldc 60, 2) := dk_18 (by decide +kernel)
theorem dX8_count_149 : decode cX8_count 149 = .ok (.invokevirtual 61, 3) := dk_182 (by decide +kernel)
theorem dX8_count_152 : decode cX8_count 152 = .ok (.ireturn, 1) := dk_172 (by decide +kernel)
set_option maxRecDepth 100000 in
set_option maxHeartbeats 8000000 in
theorem x_X8_count (l : Launch) (D : va_G) (y : wY) (ad : Nat → Nat) (i1 : Int32) (M : Mem) (K : Int32 → Mem → Prop) (h : wp_X8_count i1 M K) : MI l D y ad yX8_count (Cond.code yX8_count cX8_count 2 (some .int)) 2 M [.ref (ad 79), .int i1] K := by
  refine MI_of (by decide) (Nat.le_of_ble_eq_true rfl) ?_
  intro p e s m args below meth c X hr hlocks
  delta wp_X8_count at h
  refine j_lv (lv1 := [(0, .ref (ad 79)), (1, .int i1)]) [0, 1] rfl ?_
  refine j_iload_n X 1 rfl rfl dX8_count_0 ?_
  by_cases w_1 : i1 = 0
  · replace h := h.1 w_1
    refine j_tsw_in X 64 0 w_1 (by decide) (by decide) (off := 63) rfl (by decide) dX8_count_1 ?_
    refine j_aload_n X 0 rfl rfl dX8_count_64 ?_
    refine j_get X cl_79.1 (wE_8 _ cl_79.2) rfl awF8 0 (by decide) aw_92 rfl (v := .ref (ad 80)) rfl dX8_count_65 ?_
    refine j_iconst X (v := 2) (by decide) dX8_count_68 ?_
    refine j_iald X cl_80.1 cl_80.2 (by unfold vp_in; decide) dX8_count_69 ?_
    refine j_eqi (v := M 80 2) rfl ?_
    exact j_iret X hr hlocks dX8_count_70 h
  replace h := h.2 w_1
  by_cases w_2 : i1 = 1
  · replace h := h.1 w_2
    refine j_tsw_in X 71 1 w_2 (by decide) (by decide) (off := 70) rfl (by decide) dX8_count_1 ?_
    refine j_aload_n X 0 rfl rfl dX8_count_71 ?_
    refine j_get X cl_79.1 (wE_8 _ cl_79.2) rfl awF8 0 (by decide) aw_92 rfl (v := .ref (ad 80)) rfl dX8_count_72 ?_
    refine j_iconst X (v := 0) (by decide) dX8_count_75 ?_
    refine j_iald X cl_80.1 cl_80.2 (by unfold vp_in; decide) dX8_count_76 ?_
    refine j_eqi (v := M 80 0) rfl ?_
    exact j_iret X hr hlocks dX8_count_77 h
  replace h := h.2 w_2
  by_cases w_3 : i1 = 2
  · replace h := h.1 w_3
    refine j_tsw_in X 78 2 w_3 (by decide) (by decide) (off := 77) rfl (by decide) dX8_count_1 ?_
    refine j_aload_n X 0 rfl rfl dX8_count_78 ?_
    refine j_get X cl_79.1 (wE_8 _ cl_79.2) rfl awF8 0 (by decide) aw_92 rfl (v := .ref (ad 80)) rfl dX8_count_79 ?_
    refine j_bipush X (v := 7) (by decide) dX8_count_82 ?_
    refine j_iald X cl_80.1 cl_80.2 (by unfold vp_in; decide) dX8_count_84 ?_
    refine j_eqi (v := M 80 7) rfl ?_
    exact j_iret X hr hlocks dX8_count_85 h
  replace h := h.2 w_3
  by_cases w_4 : i1 = 3
  · replace h := h.1 w_4
    refine j_tsw_in X 86 3 w_4 (by decide) (by decide) (off := 85) rfl (by decide) dX8_count_1 ?_
    refine j_aload_n X 0 rfl rfl dX8_count_86 ?_
    refine j_get X cl_79.1 (wE_8 _ cl_79.2) rfl awF8 0 (by decide) aw_92 rfl (v := .ref (ad 80)) rfl dX8_count_87 ?_
    refine j_bipush X (v := 8) (by decide) dX8_count_90 ?_
    refine j_iald X cl_80.1 cl_80.2 (by unfold vp_in; decide) dX8_count_92 ?_
    refine j_eqi (v := M 80 8) rfl ?_
    exact j_iret X hr hlocks dX8_count_93 h
  replace h := h.2 w_4
  by_cases w_5 : i1 = 4
  · replace h := h.1 w_5
    refine j_tsw_in X 94 4 w_5 (by decide) (by decide) (off := 93) rfl (by decide) dX8_count_1 ?_
    refine j_aload_n X 0 rfl rfl dX8_count_94 ?_
    refine j_get X cl_79.1 (wE_8 _ cl_79.2) rfl awF8 0 (by decide) aw_92 rfl (v := .ref (ad 80)) rfl dX8_count_95 ?_
    refine j_bipush X (v := 9) (by decide) dX8_count_98 ?_
    refine j_iald X cl_80.1 cl_80.2 (by unfold vp_in; decide) dX8_count_100 ?_
    refine j_eqi (v := M 80 9) rfl ?_
    exact j_iret X hr hlocks dX8_count_101 h
  replace h := h.2 w_5
  by_cases w_6 : i1 = 5
  · replace h := h.1 w_6
    refine j_tsw_in X 102 5 w_6 (by decide) (by decide) (off := 101) rfl (by decide) dX8_count_1 ?_
    refine j_aload_n X 0 rfl rfl dX8_count_102 ?_
    refine j_get X cl_79.1 (wE_8 _ cl_79.2) rfl awF8 0 (by decide) aw_92 rfl (v := .ref (ad 80)) rfl dX8_count_103 ?_
    refine j_bipush X (v := 10) (by decide) dX8_count_106 ?_
    refine j_iald X cl_80.1 cl_80.2 (by unfold vp_in; decide) dX8_count_108 ?_
    refine j_eqi (v := M 80 10) rfl ?_
    exact j_iret X hr hlocks dX8_count_109 h
  replace h := h.2 w_6
  by_cases w_7 : i1 = 6
  · replace h := h.1 w_7
    refine j_tsw_in X 110 6 w_7 (by decide) (by decide) (off := 109) rfl (by decide) dX8_count_1 ?_
    refine j_aload_n X 0 rfl rfl dX8_count_110 ?_
    refine j_callVI X (nn := 0) (As := []) (st := []) (ci := 8) cl_79.1 (wE_8 _ cl_79.2) rfl aw_506 aw_507 (x_X8_overSet l D y ad  _ _ h) aw_505 aw_508 aw_5 (by decide +kernel) ⟨Nat.le_of_ble_eq_true rfl, Nat.le_of_ble_eq_true rfl⟩ rfl (Nat.le_of_ble_eq_true rfl) ⟨Nat.le_of_ble_eq_true rfl, Nat.le_of_ble_eq_true rfl⟩ dX8_count_111 ?_
    intro r8 M8 h
    exact j_iret X hr hlocks dX8_count_114 h
  replace h := h.2 w_7
  by_cases w_9 : i1 = 7
  · replace h := h.1 w_9
    refine j_tsw_in X 115 7 w_9 (by decide) (by decide) (off := 114) rfl (by decide) dX8_count_1 ?_
    refine j_aload_n X 0 rfl rfl dX8_count_115 ?_
    refine j_callVI X (nn := 0) (As := []) (st := []) (ci := 8) cl_79.1 (wE_8 _ cl_79.2) rfl aw_916 aw_917 (x_X8_edgesOfAll l D y ad  _ _ h) aw_915 aw_918 aw_5 (by decide +kernel) ⟨Nat.le_of_ble_eq_true rfl, Nat.le_of_ble_eq_true rfl⟩ rfl (Nat.le_of_ble_eq_true rfl) ⟨Nat.le_of_ble_eq_true rfl, Nat.le_of_ble_eq_true rfl⟩ dX8_count_116 ?_
    intro r10 M10 h
    exact j_iret X hr hlocks dX8_count_119 h
  replace h := h.2 w_9
  by_cases w_11 : i1 = 8
  · replace h := h.1 w_11
    refine j_tsw_in X 120 8 w_11 (by decide) (by decide) (off := 119) rfl (by decide) dX8_count_1 ?_
    refine j_aload_n X 0 rfl rfl dX8_count_120 ?_
    refine j_get X cl_79.1 (wE_8 _ cl_79.2) rfl awF8 0 (by decide) aw_92 rfl (v := .ref (ad 80)) rfl dX8_count_121 ?_
    refine j_iconst X (v := 3) (by decide) dX8_count_124 ?_
    refine j_iald X cl_80.1 cl_80.2 (by unfold vp_in; decide) dX8_count_125 ?_
    refine j_eqi (v := M 80 3) rfl ?_
    exact j_iret X hr hlocks dX8_count_126 h
  replace h := h.2 w_11
  by_cases w_12 : i1 = 9
  · replace h := h.1 w_12
    refine j_tsw_in X 127 9 w_12 (by decide) (by decide) (off := 126) rfl (by decide) dX8_count_1 ?_
    refine j_aload_n X 0 rfl rfl dX8_count_127 ?_
    refine j_get X cl_79.1 (wE_8 _ cl_79.2) rfl awF8 0 (by decide) aw_92 rfl (v := .ref (ad 80)) rfl dX8_count_128 ?_
    refine j_iconst X (v := 4) (by decide) dX8_count_131 ?_
    refine j_iald X cl_80.1 cl_80.2 (by unfold vp_in; decide) dX8_count_132 ?_
    refine j_eqi (v := M 80 4) rfl ?_
    exact j_iret X hr hlocks dX8_count_133 h
  replace h := h.2 w_12
  by_cases w_13 : i1 = 10
  · replace h := h.1 w_13
    refine j_tsw_in X 134 10 w_13 (by decide) (by decide) (off := 133) rfl (by decide) dX8_count_1 ?_
    refine j_aload_n X 0 rfl rfl dX8_count_134 ?_
    refine j_get X cl_79.1 (wE_8 _ cl_79.2) rfl awF8 20 (by decide) aw_776 rfl (v := .int (M 79 20)) rfl dX8_count_135 ?_
    exact j_iret X hr hlocks dX8_count_138 h
  replace h := h.2 w_13
  by_cases w_14 : i1 = 11
  · replace h := h.1 w_14
    refine j_tsw_in X 139 11 w_14 (by decide) (by decide) (off := 138) rfl (by decide) dX8_count_1 ?_
    refine j_aload_n X 0 rfl rfl dX8_count_139 ?_
    refine j_get X cl_79.1 (wE_8 _ cl_79.2) rfl awF8 0 (by decide) aw_92 rfl (v := .ref (ad 80)) rfl dX8_count_140 ?_
    refine j_iconst X (v := 1) (by decide) dX8_count_143 ?_
    refine j_iald X cl_80.1 cl_80.2 (by unfold vp_in; decide) dX8_count_144 ?_
    refine j_eqi (v := M 80 1) rfl ?_
    exact j_iret X hr hlocks dX8_count_145 h
  replace h := h.2 w_14
  have qw_1 := ti_ne (n := 0) (by decide) w_1
  have qw_2 := ti_ne (n := 1) (by decide) w_2
  have qw_3 := ti_ne (n := 2) (by decide) w_3
  have qw_4 := ti_ne (n := 3) (by decide) w_4
  have qw_5 := ti_ne (n := 4) (by decide) w_5
  have qw_6 := ti_ne (n := 5) (by decide) w_6
  have qw_7 := ti_ne (n := 6) (by decide) w_7
  have qw_9 := ti_ne (n := 7) (by decide) w_9
  have qw_11 := ti_ne (n := 8) (by decide) w_11
  have qw_12 := ti_ne (n := 9) (by decide) w_12
  have qw_13 := ti_ne (n := 10) (by decide) w_13
  have qw_14 := ti_ne (n := 11) (by decide) w_14
  refine j_tsw_out X 146 (by omega) (by decide) dX8_count_1 ?_
  refine j_aload_n X 0 rfl rfl dX8_count_146 ?_
  refine j_ldc X (v := (-1000000001)) aw_132 dX8_count_147 ?_
  refine j_callVI X (nn := 1) (As := [.int (-1000000001)]) (st := []) (ci := 8) cl_79.1 (wE_8 _ cl_79.2) rfl aw_144 aw_145 (x_X8_errs l D y ad (-1000000001) _ _ h) aw_143 aw_146 aw_5 (by decide +kernel) ⟨Nat.le_of_ble_eq_true rfl, Nat.le_of_ble_eq_true rfl⟩ rfl (Nat.le_of_ble_eq_true rfl) ⟨Nat.le_of_ble_eq_true rfl, Nat.le_of_ble_eq_true rfl⟩ dX8_count_149 ?_
  intro r15 M15 h
  exact j_iret X hr hlocks dX8_count_152 h
theorem dX8_told_0 : decode cX8_told 0 = .ok (.iload_n 1, 1) := dk_27 (by decide +kernel)
theorem dX8_told_1 : decode cX8_told 1 = .ok (.iconst 1, 1) := dk_4 (by decide +kernel)
theorem dX8_told_2 : decode cX8_told 2 = .ok (.iconst 5, 1) := dk_8 (by decide +kernel)
theorem dX8_told_3 : decode cX8_told 3 = .ok (.invokestatic 47, 3) := dk_184 (by decide +kernel)
theorem dX8_told_6 : decode cX8_told 6 = .ok (.ifCond .eq 12, 3) := dk_153 (by decide +kernel)
theorem dX8_told_18 : decode cX8_told 18 = .ok (.aload_n 0, 1) := dk_42 (by decide +kernel)
theorem dX8_told_19 : decode cX8_told 19 = .ok (.ldc 60, 2) := dk_18 (by decide +kernel)
theorem dX8_told_21 : decode cX8_told 21 = .ok (.invokevirtual 61, 3) := dk_182 (by decide +kernel)
theorem dX8_told_24 : decode cX8_told 24 = .ok (.ireturn, 1) := dk_172 (by decide +kernel)
theorem dX8_told_9 : decode cX8_told 9 = .ok (.aload_n 0, 1) := dk_42 (by decide +kernel)
theorem dX8_told_10 : decode cX8_told 10 = .ok (.getfield 19, 3) := dk_180 (by decide +kernel)
theorem dX8_told_13 : decode cX8_told 13 = .ok (.iload_n 1, 1) := dk_27 (by decide +kernel)
theorem dX8_told_14 : decode cX8_told 14 = .ok (.iaload, 1) := dk_46 (by decide +kernel)
theorem dX8_told_15 : decode cX8_told 15 = .ok (.goto 9, 3) := dk_167 (by decide +kernel)
set_option maxRecDepth 100000 in
set_option maxHeartbeats 8000000 in
theorem x_X8_told (l : Launch) (D : va_G) (y : wY) (ad : Nat → Nat) (i1 : Int32) (M : Mem) (K : Int32 → Mem → Prop) (h : wp_X8_told i1 M K) : MI l D y ad yX8_told (Cond.code yX8_told cX8_told 2 (some .int)) 1 M [.ref (ad 79), .int i1] K := by
  refine MI_of (by decide) (Nat.le_of_ble_eq_true rfl) ?_
  intro p e s m args below meth c X hr hlocks
  delta wp_X8_told at h
  refine j_lv (lv1 := [(0, .ref (ad 79)), (1, .int i1)]) [0, 1] rfl ?_
  refine j_iload_n X 1 rfl rfl dX8_told_0 ?_
  refine j_iconst X (v := 1) (by decide) dX8_told_1 ?_
  refine j_iconst X (v := 5) (by decide) dX8_told_2 ?_
  refine j_callSI X (nn := 3) (As := [.int i1, .int 1, .int 5]) (st := []) aw_134 (x_X8_in l D y ad i1 1 5 _ _ h) aw_133 aw_135 aw_5 (by decide +kernel) ⟨Nat.le_of_ble_eq_true rfl, Nat.le_of_ble_eq_true rfl⟩ rfl (Nat.le_of_ble_eq_true rfl) ⟨Nat.le_of_ble_eq_true rfl, Nat.le_of_ble_eq_true rfl⟩ dX8_told_3 ?_
  intro r1 M1 h
  refine j_if_eq X 18 (by decide) dX8_told_6 (fun q_2 => ?_) (fun q_2 => ?_)
  · replace h := h.1 q_2
    refine j_aload_n X 0 rfl rfl dX8_told_18 ?_
    refine j_ldc X (v := (-1000000001)) aw_132 dX8_told_19 ?_
    refine j_callVI X (nn := 1) (As := [.int (-1000000001)]) (st := []) (ci := 8) cl_79.1 (wE_8 _ cl_79.2) rfl aw_144 aw_145 (x_X8_errs l D y ad (-1000000001) _ _ h) aw_143 aw_146 aw_5 (by decide +kernel) ⟨Nat.le_of_ble_eq_true rfl, Nat.le_of_ble_eq_true rfl⟩ rfl (Nat.le_of_ble_eq_true rfl) ⟨Nat.le_of_ble_eq_true rfl, Nat.le_of_ble_eq_true rfl⟩ dX8_told_21 ?_
    intro r3 M3 h
    exact j_iret X hr hlocks dX8_told_24 h
  · replace h := h.2 q_2
    refine j_aload_n X 0 rfl rfl dX8_told_9 ?_
    refine j_get X cl_79.1 (wE_8 _ cl_79.2) rfl awF8 5 (by decide) aw_95 rfl (v := .ref (ad 83)) rfl dX8_told_10 ?_
    refine j_iload_n X 1 rfl rfl dX8_told_13 ?_
    obtain ⟨hi_4, h⟩ := h
    refine j_iald X cl_83.1 cl_83.2 hi_4 dX8_told_14 ?_
    refine j_goto X 24 (by decide) dX8_told_15 ?_
    exact j_iret X hr hlocks dX8_told_24 h
