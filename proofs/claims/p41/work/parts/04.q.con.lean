theorem dX8_sheet_93 : decode cX8_sheet 93 = .ok (.iload 4, 2) := dk_21 (by decide +kernel)
theorem dX8_sheet_95 : decode cX8_sheet 95 = .ok (.bipush 40, 2) := dk_16 (by decide +kernel)
theorem dX8_sheet_97 : decode cX8_sheet 97 = .ok (.if_icmp .ge 22, 3) := dk_162 (by decide +kernel)
theorem dX8_sheet_119 : decode cX8_sheet 119 = .ok (.iconst 1, 1) := dk_4 (by decide +kernel)
theorem dX8_sheet_120 : decode cX8_sheet 120 = .ok (.ireturn, 1) := dk_172 (by decide +kernel)
theorem dX8_sheet_100 : decode cX8_sheet 100 = .ok (.aload_n 0, 1) := dk_42 (by decide +kernel)
theorem dX8_sheet_101 : decode cX8_sheet 101 = .ok (.getfield 37, 3) := dk_180 (by decide +kernel)
theorem dX8_sheet_104 : decode cX8_sheet 104 = .ok (.bipush 40, 2) := dk_16 (by decide +kernel)
theorem dX8_sheet_106 : decode cX8_sheet 106 = .ok (.iload_n 1, 1) := dk_27 (by decide +kernel)
theorem dX8_sheet_107 : decode cX8_sheet 107 = .ok (.imul, 1) := dk_104 (by decide +kernel)
theorem dX8_sheet_108 : decode cX8_sheet 108 = .ok (.iload 4, 2) := dk_21 (by decide +kernel)
theorem dX8_sheet_110 : decode cX8_sheet 110 = .ok (.iadd, 1) := dk_96 (by decide +kernel)
theorem dX8_sheet_111 : decode cX8_sheet 111 = .ok (.iconst 0, 1) := dk_3 (by decide +kernel)
theorem dX8_sheet_112 : decode cX8_sheet 112 = .ok (.iastore, 1) := dk_79 (by decide +kernel)
theorem dX8_sheet_113 : decode cX8_sheet 113 = .ok (.iinc 4 1, 3) := dk_132 (by decide +kernel)
theorem dX8_sheet_116 : decode cX8_sheet 116 = .ok (.goto (-23), 3) := dk_167 (by decide +kernel)
theorem dX8_sheet_51 : decode cX8_sheet 51 = .ok (.iload_n 2, 1) := dk_28 (by decide +kernel)
theorem dX8_sheet_52 : decode cX8_sheet 52 = .ok (.ifCond .eq 16, 3) := dk_153 (by decide +kernel)
theorem dX8_sheet_68 : decode cX8_sheet 68 = .ok (.aload_n 0, 1) := dk_42 (by decide +kernel)
theorem dX8_sheet_69 : decode cX8_sheet 69 = .ok (.getfield 31, 3) := dk_180 (by decide +kernel)
theorem dX8_sheet_72 : decode cX8_sheet 72 = .ok (.iload_n 1, 1) := dk_27 (by decide +kernel)
theorem dX8_sheet_73 : decode cX8_sheet 73 = .ok (.iload_n 2, 1) := dk_28 (by decide +kernel)
theorem dX8_sheet_74 : decode cX8_sheet 74 = .ok (.iastore, 1) := dk_79 (by decide +kernel)
theorem dX8_sheet_75 : decode cX8_sheet 75 = .ok (.aload_n 0, 1) := dk_42 (by decide +kernel)
theorem dX8_sheet_76 : decode cX8_sheet 76 = .ok (.getfield 34, 3) := dk_180 (by decide +kernel)
theorem dX8_sheet_79 : decode cX8_sheet 79 = .ok (.iload_n 1, 1) := dk_27 (by decide +kernel)
theorem dX8_sheet_80 : decode cX8_sheet 80 = .ok (.iload_n 2, 1) := dk_28 (by decide +kernel)
theorem dX8_sheet_81 : decode cX8_sheet 81 = .ok (.ifCond .ne 7, 3) := dk_154 (by decide +kernel)
theorem dX8_sheet_88 : decode cX8_sheet 88 = .ok (.iload_n 3, 1) := dk_29 (by decide +kernel)
theorem dX8_sheet_89 : decode cX8_sheet 89 = .ok (.iastore, 1) := dk_79 (by decide +kernel)
theorem dX8_sheet_90 : decode cX8_sheet 90 = .ok (.iconst 0, 1) := dk_3 (by decide +kernel)
theorem dX8_sheet_91 : decode cX8_sheet 91 = .ok (.istore 4, 2) := dk_54 (by decide +kernel)
theorem dX8_sheet_84 : decode cX8_sheet 84 = .ok (.iconst 0, 1) := dk_3 (by decide +kernel)
theorem dX8_sheet_85 : decode cX8_sheet 85 = .ok (.goto 4, 3) := dk_167 (by decide +kernel)
theorem dX8_sheet_55 : decode cX8_sheet 55 = .ok (.iload_n 3, 1) := dk_29 (by decide +kernel)
theorem dX8_sheet_56 : decode cX8_sheet 56 = .ok (.bipush 40, 2) := dk_16 (by decide +kernel)
theorem dX8_sheet_58 : decode cX8_sheet 58 = .ok (.if_icmp .le 10, 3) := dk_164 (by decide +kernel)
theorem dX8_sheet_61 : decode cX8_sheet 61 = .ok (.aload_n 0, 1) := dk_42 (by decide +kernel)
theorem dX8_sheet_62 : decode cX8_sheet 62 = .ok (.ldc 60, 2) := dk_18 (by decide +kernel)
theorem dX8_sheet_64 : decode cX8_sheet 64 = .ok (.invokevirtual 61, 3) := dk_182 (by decide +kernel)
theorem dX8_sheet_67 : decode cX8_sheet 67 = .ok (.ireturn, 1) := dk_172 (by decide +kernel)
theorem dX8_sheet_0 : decode cX8_sheet 0 = .ok (.iload_n 1, 1) := dk_27 (by decide +kernel)
theorem dX8_sheet_1 : decode cX8_sheet 1 = .ok (.invokestatic 205, 3) := dk_184 (by decide +kernel)
theorem dX8_sheet_4 : decode cX8_sheet 4 = .ok (.ifCond .eq 25, 3) := dk_153 (by decide +kernel)
theorem dX8_sheet_29 : decode cX8_sheet 29 = .ok (.aload_n 0, 1) := dk_42 (by decide +kernel)
theorem dX8_sheet_30 : decode cX8_sheet 30 = .ok (.ldc 60, 2) := dk_18 (by decide +kernel)
theorem dX8_sheet_32 : decode cX8_sheet 32 = .ok (.invokevirtual 61, 3) := dk_182 (by decide +kernel)
theorem dX8_sheet_35 : decode cX8_sheet 35 = .ok (.ireturn, 1) := dk_172 (by decide +kernel)
theorem dX8_sheet_7 : decode cX8_sheet 7 = .ok (.iload_n 2, 1) := dk_28 (by decide +kernel)
theorem dX8_sheet_8 : decode cX8_sheet 8 = .ok (.ifCond .eq 28, 3) := dk_153 (by decide +kernel)
theorem dX8_sheet_36 : decode cX8_sheet 36 = .ok (.iload_n 2, 1) := dk_28 (by decide +kernel)
theorem dX8_sheet_37 : decode cX8_sheet 37 = .ok (.ifCond .eq 14, 3) := dk_153 (by decide +kernel)
theorem dX8_sheet_40 : decode cX8_sheet 40 = .ok (.iload_n 3, 1) := dk_29 (by decide +kernel)
theorem dX8_sheet_41 : decode cX8_sheet 41 = .ok (.ifCond .ge 10, 3) := dk_156 (by decide +kernel)
theorem dX8_sheet_44 : decode cX8_sheet 44 = .ok (.aload_n 0, 1) := dk_42 (by decide +kernel)
theorem dX8_sheet_45 : decode cX8_sheet 45 = .ok (.ldc 186, 2) := dk_18 (by decide +kernel)
theorem dX8_sheet_47 : decode cX8_sheet 47 = .ok (.invokevirtual 61, 3) := dk_182 (by decide +kernel)
theorem dX8_sheet_50 : decode cX8_sheet 50 = .ok (.ireturn, 1) := dk_172 (by decide +kernel)
theorem dX8_sheet_11 : decode cX8_sheet 11 = .ok (.iload_n 2, 1) := dk_28 (by decide +kernel)
theorem dX8_sheet_12 : decode cX8_sheet 12 = .ok (.bipush 8, 2) := dk_16 (by decide +kernel)
theorem dX8_sheet_14 : decode cX8_sheet 14 = .ok (.if_icmp .eq 22, 3) := dk_159 (by decide +kernel)
theorem dX8_sheet_17 : decode cX8_sheet 17 = .ok (.iload_n 2, 1) := dk_28 (by decide +kernel)
theorem dX8_sheet_18 : decode cX8_sheet 18 = .ok (.bipush 16, 2) := dk_16 (by decide +kernel)
theorem dX8_sheet_20 : decode cX8_sheet 20 = .ok (.if_icmp .eq 16, 3) := dk_159 (by decide +kernel)
theorem dX8_sheet_23 : decode cX8_sheet 23 = .ok (.iload_n 2, 1) := dk_28 (by decide +kernel)
theorem dX8_sheet_24 : decode cX8_sheet 24 = .ok (.bipush 32, 2) := dk_16 (by decide +kernel)
theorem dX8_sheet_26 : decode cX8_sheet 26 = .ok (.if_icmp .eq 10, 3) := dk_159 (by decide +kernel)
set_option maxRecDepth 100000 in
set_option maxHeartbeats 8000000 in
theorem x_X8_sheet (l : Launch) (D : va_G) (y : wY) (ad : Nat → Nat) (i1 : Int32) (i2 : Int32) (i3 : Int32) (M : Mem) (K : Int32 → Mem → Prop) (h : wp_X8_sheet i1 i2 i3 M K) : MI l D y ad yX8_sheet (Cond.code yX8_sheet cX8_sheet 5 (some .int)) 2 M [.ref (ad 79), .int i1, .int i2, .int i3] K := by
  refine MI_of (by decide) (Nat.le_of_ble_eq_true rfl) ?_
  intro p e s m args below meth c X hr hlocks
  have hL93 : ∀ (i1 : Int32) (n : Nat) (i4 : Int32) (Mb : Mem), wp_X8_sheet_L93 K i1 n i4 Mb → J p l e (rmN 2) s m args below meth c 0 0 (QI K D y ad M s args below) D y ad (va_A (PL y ad M) s.heap.size) 5 Mb 93 [(0, .ref (ad 79)), (1, .int i1), (4, .int i4)] [] := by
    intro i1 n
    induction n with
    | zero => intro i4 Mb h; exact False.elim h
    | succ n hB93 =>
      intro i4 Mb h
      replace h : wp_X8_sheet_l93 K i1 (wp_X8_sheet_L93 K i1 n) i4 Mb := h
      delta wp_X8_sheet_l93 at h
      refine j_iload X 2 rfl dX8_sheet_93 ?_
      refine j_bipush X (v := 40) (by decide) dX8_sheet_95 ?_
      refine j_icmp_ge X 119 (by decide) dX8_sheet_97 (fun q_9301 => ?_) (fun q_9301 => ?_)
      · replace h := h.1 q_9301
        refine j_iconst X (v := 1) (by decide) dX8_sheet_119 ?_
        exact j_iret X hr hlocks dX8_sheet_120 h
      · replace h := h.2 q_9301
        refine j_aload_n X 0 rfl rfl dX8_sheet_100 ?_
        refine j_get X cl_79.1 (wE_8 _ cl_79.2) rfl awF8 17 (by decide) aw_101 rfl (v := .ref (ad 89)) rfl dX8_sheet_101 ?_
        refine j_bipush X (v := 40) (by decide) dX8_sheet_104 ?_
        refine j_iload_n X 1 rfl rfl dX8_sheet_106 ?_
        refine j_imul X dX8_sheet_107 ?_
        refine j_iload X 2 rfl dX8_sheet_108 ?_
        refine j_iadd X dX8_sheet_110 ?_
        refine j_iconst X (v := 0) (by decide) dX8_sheet_111 ?_
        obtain ⟨hi_9302, h⟩ := h
        refine j_iast X cl_89.1 cl_89.2 hi_9302 dX8_sheet_112 ?_
        refine j_iinc X (v := (i4 + 1)) 2 [(4, .int (i4 + 1)), (0, .ref (ad 79)), (1, .int i1)] rfl rfl (by decide) rfl dX8_sheet_113 ?_
        refine j_goto X 93 (by decide) dX8_sheet_116 ?_
        refine j_lv (lv1 := [(0, .ref (ad 79)), (1, .int i1), (4, .int (i4 + 1))]) [1, 2, 0] rfl ?_
        exact hB93 _ _ h
  have hb51 : ∀ (i1 : Int32) (i2 : Int32) (i3 : Int32) (Mb : Mem), wp_X8_sheet_b51 K i1 i2 i3 Mb → J p l e (rmN 2) s m args below meth c 0 0 (QI K D y ad M s args below) D y ad (va_A (PL y ad M) s.heap.size) 5 Mb 51 [(0, .ref (ad 79)), (1, .int i1), (2, .int i2), (3, .int i3)] [] := by
    intro i1 i2 i3 Mb h
    delta wp_X8_sheet_b51 at h
    refine j_iload_n X 2 rfl rfl dX8_sheet_51 ?_
    refine j_if_eq X 68 (by decide) dX8_sheet_52 (fun q_5101 => ?_) (fun q_5101 => ?_)
    · replace h := h.1 q_5101
      refine j_aload_n X 0 rfl rfl dX8_sheet_68 ?_
      refine j_get X cl_79.1 (wE_8 _ cl_79.2) rfl awF8 15 (by decide) aw_99 rfl (v := .ref (ad 87)) rfl dX8_sheet_69 ?_
      refine j_iload_n X 1 rfl rfl dX8_sheet_72 ?_
      refine j_iload_n X 2 rfl rfl dX8_sheet_73 ?_
      obtain ⟨hi_5102, h⟩ := h
      refine j_iast X cl_87.1 cl_87.2 hi_5102 dX8_sheet_74 ?_
      refine j_aload_n X 0 rfl rfl dX8_sheet_75 ?_
      refine j_get X cl_79.1 (wE_8 _ cl_79.2) rfl awF8 16 (by decide) aw_100 rfl (v := .ref (ad 88)) rfl dX8_sheet_76 ?_
      refine j_iload_n X 1 rfl rfl dX8_sheet_79 ?_
      refine j_iload_n X 2 rfl rfl dX8_sheet_80 ?_
      refine j_if_ne X 88 (by decide) dX8_sheet_81 (fun q_5103 => ?_) (fun q_5103 => ?_)
      · replace h := h.1 q_5103
        refine j_iload_n X 3 rfl rfl dX8_sheet_88 ?_
        obtain ⟨hi_5104, h⟩ := h
        refine j_iast X cl_88.1 cl_88.2 hi_5104 dX8_sheet_89 ?_
        refine j_iconst X (v := 0) (by decide) dX8_sheet_90 ?_
        refine j_istore X [(4, .int 0), (0, .ref (ad 79)), (1, .int i1), (2, .int i2), (3, .int i3)] (by decide) rfl dX8_sheet_91 ?_
        refine j_lv (lv1 := [(0, .ref (ad 79)), (1, .int i1), (4, .int 0)]) [1, 2, 0] rfl ?_
        obtain ⟨n93, h⟩ := h
        exact hL93 _   n93 _ _ h
      · replace h := h.2 q_5103
        refine j_iconst X (v := 0) (by decide) dX8_sheet_84 ?_
        refine j_goto X 89 (by decide) dX8_sheet_85 ?_
        obtain ⟨hi_5105, h⟩ := h
        refine j_iast X cl_88.1 cl_88.2 hi_5105 dX8_sheet_89 ?_
        refine j_iconst X (v := 0) (by decide) dX8_sheet_90 ?_
        refine j_istore X [(4, .int 0), (0, .ref (ad 79)), (1, .int i1), (2, .int i2), (3, .int i3)] (by decide) rfl dX8_sheet_91 ?_
        refine j_lv (lv1 := [(0, .ref (ad 79)), (1, .int i1), (4, .int 0)]) [1, 2, 0] rfl ?_
        obtain ⟨n93, h⟩ := h
        exact hL93 _   n93 _ _ h
    · replace h := h.2 q_5101
      refine j_iload_n X 3 rfl rfl dX8_sheet_55 ?_
      refine j_bipush X (v := 40) (by decide) dX8_sheet_56 ?_
      refine j_icmp_le X 68 (by decide) dX8_sheet_58 (fun q_5106 => ?_) (fun q_5106 => ?_)
      · replace h := h.1 q_5106
        refine j_aload_n X 0 rfl rfl dX8_sheet_68 ?_
        refine j_get X cl_79.1 (wE_8 _ cl_79.2) rfl awF8 15 (by decide) aw_99 rfl (v := .ref (ad 87)) rfl dX8_sheet_69 ?_
        refine j_iload_n X 1 rfl rfl dX8_sheet_72 ?_
        refine j_iload_n X 2 rfl rfl dX8_sheet_73 ?_
        obtain ⟨hi_5107, h⟩ := h
        refine j_iast X cl_87.1 cl_87.2 hi_5107 dX8_sheet_74 ?_
        refine j_aload_n X 0 rfl rfl dX8_sheet_75 ?_
        refine j_get X cl_79.1 (wE_8 _ cl_79.2) rfl awF8 16 (by decide) aw_100 rfl (v := .ref (ad 88)) rfl dX8_sheet_76 ?_
        refine j_iload_n X 1 rfl rfl dX8_sheet_79 ?_
        refine j_iload_n X 2 rfl rfl dX8_sheet_80 ?_
        refine j_if_ne X 88 (by decide) dX8_sheet_81 (fun q_5108 => ?_) (fun q_5108 => ?_)
        · replace h := h.1 q_5108
          refine j_iload_n X 3 rfl rfl dX8_sheet_88 ?_
          obtain ⟨hi_5109, h⟩ := h
          refine j_iast X cl_88.1 cl_88.2 hi_5109 dX8_sheet_89 ?_
          refine j_iconst X (v := 0) (by decide) dX8_sheet_90 ?_
          refine j_istore X [(4, .int 0), (0, .ref (ad 79)), (1, .int i1), (2, .int i2), (3, .int i3)] (by decide) rfl dX8_sheet_91 ?_
          refine j_lv (lv1 := [(0, .ref (ad 79)), (1, .int i1), (4, .int 0)]) [1, 2, 0] rfl ?_
          obtain ⟨n93, h⟩ := h
          exact hL93 _   n93 _ _ h
        · replace h := h.2 q_5108
          refine j_iconst X (v := 0) (by decide) dX8_sheet_84 ?_
          refine j_goto X 89 (by decide) dX8_sheet_85 ?_
          obtain ⟨hi_5110, h⟩ := h
          refine j_iast X cl_88.1 cl_88.2 hi_5110 dX8_sheet_89 ?_
          refine j_iconst X (v := 0) (by decide) dX8_sheet_90 ?_
          refine j_istore X [(4, .int 0), (0, .ref (ad 79)), (1, .int i1), (2, .int i2), (3, .int i3)] (by decide) rfl dX8_sheet_91 ?_
          refine j_lv (lv1 := [(0, .ref (ad 79)), (1, .int i1), (4, .int 0)]) [1, 2, 0] rfl ?_
          obtain ⟨n93, h⟩ := h
          exact hL93 _   n93 _ _ h
      · replace h := h.2 q_5106
        refine j_aload_n X 0 rfl rfl dX8_sheet_61 ?_
        refine j_ldc X (v := (-1000000001)) aw_132 dX8_sheet_62 ?_
        refine j_callVI X (nn := 1) (As := [.int (-1000000001)]) (st := []) (ci := 8) cl_79.1 (wE_8 _ cl_79.2) rfl aw_144 aw_145 (x_X8_errs l D y ad (-1000000001) _ _ h) aw_143 aw_146 aw_5 (by decide +kernel) ⟨Nat.le_of_ble_eq_true rfl, Nat.le_of_ble_eq_true rfl⟩ rfl (Nat.le_of_ble_eq_true rfl) ⟨Nat.le_of_ble_eq_true rfl, Nat.le_of_ble_eq_true rfl⟩ dX8_sheet_64 ?_
        intro r5111 M5111 h
        exact j_iret X hr hlocks dX8_sheet_67 h
  delta wp_X8_sheet at h
  refine j_lv (lv1 := [(0, .ref (ad 79)), (1, .int i1), (2, .int i2), (3, .int i3)]) [0, 1, 2, 3] rfl ?_
  refine j_iload_n X 1 rfl rfl dX8_sheet_0 ?_
  refine j_callSI X (nn := 1) (As := [.int i1]) (st := []) aw_653 (x_X8_isSheet l D y ad i1 _ _ h) aw_652 aw_654 aw_5 (by decide +kernel) ⟨Nat.le_of_ble_eq_true rfl, Nat.le_of_ble_eq_true rfl⟩ rfl (Nat.le_of_ble_eq_true rfl) ⟨Nat.le_of_ble_eq_true rfl, Nat.le_of_ble_eq_true rfl⟩ dX8_sheet_1 ?_
  intro r1 M1 h
  refine j_if_eq X 29 (by decide) dX8_sheet_4 (fun q_2 => ?_) (fun q_2 => ?_)
  · replace h := h.1 q_2
    refine j_aload_n X 0 rfl rfl dX8_sheet_29 ?_
    refine j_ldc X (v := (-1000000001)) aw_132 dX8_sheet_30 ?_
    refine j_callVI X (nn := 1) (As := [.int (-1000000001)]) (st := []) (ci := 8) cl_79.1 (wE_8 _ cl_79.2) rfl aw_144 aw_145 (x_X8_errs l D y ad (-1000000001) _ _ h) aw_143 aw_146 aw_5 (by decide +kernel) ⟨Nat.le_of_ble_eq_true rfl, Nat.le_of_ble_eq_true rfl⟩ rfl (Nat.le_of_ble_eq_true rfl) ⟨Nat.le_of_ble_eq_true rfl, Nat.le_of_ble_eq_true rfl⟩ dX8_sheet_32 ?_
    intro r3 M3 h
    exact j_iret X hr hlocks dX8_sheet_35 h
  · replace h := h.2 q_2
    refine j_iload_n X 2 rfl rfl dX8_sheet_7 ?_
    refine j_if_eq X 36 (by decide) dX8_sheet_8 (fun q_4 => ?_) (fun q_4 => ?_)
    · replace h := h.1 q_4
      refine j_iload_n X 2 rfl rfl dX8_sheet_36 ?_
      refine j_if_eq X 51 (by decide) dX8_sheet_37 (fun q_5 => ?_) (fun q_5 => ?_)
      · replace h := h.1 q_5
        refine j_lv (lv1 := [(0, .ref (ad 79)), (1, .int i1), (2, .int i2), (3, .int i3)]) [0, 1, 2, 3] rfl ?_
        exact hb51 _ _ _  _ h
      · replace h := h.2 q_5
        refine j_iload_n X 3 rfl rfl dX8_sheet_40 ?_
        refine j_if_ge X 51 (by decide) dX8_sheet_41 (fun q_6 => ?_) (fun q_6 => ?_)
        · replace h := h.1 q_6
          refine j_lv (lv1 := [(0, .ref (ad 79)), (1, .int i1), (2, .int i2), (3, .int i3)]) [0, 1, 2, 3] rfl ?_
          exact hb51 _ _ _  _ h
        · replace h := h.2 q_6
          refine j_aload_n X 0 rfl rfl dX8_sheet_44 ?_
          refine j_ldc X (v := (-1000000003)) aw_480 dX8_sheet_45 ?_
          refine j_callVI X (nn := 1) (As := [.int (-1000000003)]) (st := []) (ci := 8) cl_79.1 (wE_8 _ cl_79.2) rfl aw_144 aw_145 (x_X8_errs l D y ad (-1000000003) _ _ h) aw_143 aw_146 aw_5 (by decide +kernel) ⟨Nat.le_of_ble_eq_true rfl, Nat.le_of_ble_eq_true rfl⟩ rfl (Nat.le_of_ble_eq_true rfl) ⟨Nat.le_of_ble_eq_true rfl, Nat.le_of_ble_eq_true rfl⟩ dX8_sheet_47 ?_
          intro r7 M7 h
          exact j_iret X hr hlocks dX8_sheet_50 h
    · replace h := h.2 q_4
      refine j_iload_n X 2 rfl rfl dX8_sheet_11 ?_
      refine j_bipush X (v := 8) (by decide) dX8_sheet_12 ?_
      refine j_icmp_eq X 36 (by decide) dX8_sheet_14 (fun q_8 => ?_) (fun q_8 => ?_)
      · replace h := h.1 q_8
        refine j_iload_n X 2 rfl rfl dX8_sheet_36 ?_
        refine j_if_eq X 51 (by decide) dX8_sheet_37 (fun q_9 => ?_) (fun q_9 => ?_)
        · replace h := h.1 q_9
          refine j_lv (lv1 := [(0, .ref (ad 79)), (1, .int i1), (2, .int i2), (3, .int i3)]) [0, 1, 2, 3] rfl ?_
          exact hb51 _ _ _  _ h
        · replace h := h.2 q_9
          refine j_iload_n X 3 rfl rfl dX8_sheet_40 ?_
          refine j_if_ge X 51 (by decide) dX8_sheet_41 (fun q_10 => ?_) (fun q_10 => ?_)
          · replace h := h.1 q_10
            refine j_lv (lv1 := [(0, .ref (ad 79)), (1, .int i1), (2, .int i2), (3, .int i3)]) [0, 1, 2, 3] rfl ?_
            exact hb51 _ _ _  _ h
          · replace h := h.2 q_10
            refine j_aload_n X 0 rfl rfl dX8_sheet_44 ?_
            refine j_ldc X (v := (-1000000003)) aw_480 dX8_sheet_45 ?_
            refine j_callVI X (nn := 1) (As := [.int (-1000000003)]) (st := []) (ci := 8) cl_79.1 (wE_8 _ cl_79.2) rfl aw_144 aw_145 (x_X8_errs l D y ad (-1000000003) _ _ h) aw_143 aw_146 aw_5 (by decide +kernel) ⟨Nat.le_of_ble_eq_true rfl, Nat.le_of_ble_eq_true rfl⟩ rfl (Nat.le_of_ble_eq_true rfl) ⟨Nat.le_of_ble_eq_true rfl, Nat.le_of_ble_eq_true rfl⟩ dX8_sheet_47 ?_
            intro r11 M11 h
            exact j_iret X hr hlocks dX8_sheet_50 h
      · replace h := h.2 q_8
        refine j_iload_n X 2 rfl rfl dX8_sheet_17 ?_
        refine j_bipush X (v := 16) (by decide) dX8_sheet_18 ?_
        refine j_icmp_eq X 36 (by decide) dX8_sheet_20 (fun q_12 => ?_) (fun q_12 => ?_)
        · replace h := h.1 q_12
          refine j_iload_n X 2 rfl rfl dX8_sheet_36 ?_
          refine j_if_eq X 51 (by decide) dX8_sheet_37 (fun q_13 => ?_) (fun q_13 => ?_)
          · replace h := h.1 q_13
            refine j_lv (lv1 := [(0, .ref (ad 79)), (1, .int i1), (2, .int i2), (3, .int i3)]) [0, 1, 2, 3] rfl ?_
            exact hb51 _ _ _  _ h
          · replace h := h.2 q_13
            refine j_iload_n X 3 rfl rfl dX8_sheet_40 ?_
            refine j_if_ge X 51 (by decide) dX8_sheet_41 (fun q_14 => ?_) (fun q_14 => ?_)
            · replace h := h.1 q_14
              refine j_lv (lv1 := [(0, .ref (ad 79)), (1, .int i1), (2, .int i2), (3, .int i3)]) [0, 1, 2, 3] rfl ?_
              exact hb51 _ _ _  _ h
            · replace h := h.2 q_14
              refine j_aload_n X 0 rfl rfl dX8_sheet_44 ?_
              refine j_ldc X (v := (-1000000003)) aw_480 dX8_sheet_45 ?_
              refine j_callVI X (nn := 1) (As := [.int (-1000000003)]) (st := []) (ci := 8) cl_79.1 (wE_8 _ cl_79.2) rfl aw_144 aw_145 (x_X8_errs l D y ad (-1000000003) _ _ h) aw_143 aw_146 aw_5 (by decide +kernel) ⟨Nat.le_of_ble_eq_true rfl, Nat.le_of_ble_eq_true rfl⟩ rfl (Nat.le_of_ble_eq_true rfl) ⟨Nat.le_of_ble_eq_true rfl, Nat.le_of_ble_eq_true rfl⟩ dX8_sheet_47 ?_
              intro r15 M15 h
              exact j_iret X hr hlocks dX8_sheet_50 h
        · replace h := h.2 q_12
          refine j_iload_n X 2 rfl rfl dX8_sheet_23 ?_
          refine j_bipush X (v := 32) (by decide) dX8_sheet_24 ?_
          refine j_icmp_eq X 36 (by decide) dX8_sheet_26 (fun q_16 => ?_) (fun q_16 => ?_)
          · replace h := h.1 q_16
            refine j_iload_n X 2 rfl rfl dX8_sheet_36 ?_
            refine j_if_eq X 51 (by decide) dX8_sheet_37 (fun q_17 => ?_) (fun q_17 => ?_)
            · replace h := h.1 q_17
              refine j_lv (lv1 := [(0, .ref (ad 79)), (1, .int i1), (2, .int i2), (3, .int i3)]) [0, 1, 2, 3] rfl ?_
              exact hb51 _ _ _  _ h
            · replace h := h.2 q_17
              refine j_iload_n X 3 rfl rfl dX8_sheet_40 ?_
              refine j_if_ge X 51 (by decide) dX8_sheet_41 (fun q_18 => ?_) (fun q_18 => ?_)
              · replace h := h.1 q_18
                refine j_lv (lv1 := [(0, .ref (ad 79)), (1, .int i1), (2, .int i2), (3, .int i3)]) [0, 1, 2, 3] rfl ?_
                exact hb51 _ _ _  _ h
              · replace h := h.2 q_18
                refine j_aload_n X 0 rfl rfl dX8_sheet_44 ?_
                refine j_ldc X (v := (-1000000003)) aw_480 dX8_sheet_45 ?_
                refine j_callVI X (nn := 1) (As := [.int (-1000000003)]) (st := []) (ci := 8) cl_79.1 (wE_8 _ cl_79.2) rfl aw_144 aw_145 (x_X8_errs l D y ad (-1000000003) _ _ h) aw_143 aw_146 aw_5 (by decide +kernel) ⟨Nat.le_of_ble_eq_true rfl, Nat.le_of_ble_eq_true rfl⟩ rfl (Nat.le_of_ble_eq_true rfl) ⟨Nat.le_of_ble_eq_true rfl, Nat.le_of_ble_eq_true rfl⟩ dX8_sheet_47 ?_
                intro r19 M19 h
                exact j_iret X hr hlocks dX8_sheet_50 h
          · replace h := h.2 q_16
            refine j_aload_n X 0 rfl rfl dX8_sheet_29 ?_
            refine j_ldc X (v := (-1000000001)) aw_132 dX8_sheet_30 ?_
            refine j_callVI X (nn := 1) (As := [.int (-1000000001)]) (st := []) (ci := 8) cl_79.1 (wE_8 _ cl_79.2) rfl aw_144 aw_145 (x_X8_errs l D y ad (-1000000001) _ _ h) aw_143 aw_146 aw_5 (by decide +kernel) ⟨Nat.le_of_ble_eq_true rfl, Nat.le_of_ble_eq_true rfl⟩ rfl (Nat.le_of_ble_eq_true rfl) ⟨Nat.le_of_ble_eq_true rfl, Nat.le_of_ble_eq_true rfl⟩ dX8_sheet_32 ?_
            intro r20 M20 h
            exact j_iret X hr hlocks dX8_sheet_35 h
theorem dX8_put_0 : decode cX8_put 0 = .ok (.iload_n 1, 1) := dk_27 (by decide +kernel)
theorem dX8_put_1 : decode cX8_put 1 = .ok (.invokestatic 205, 3) := dk_184 (by decide +kernel)
theorem dX8_put_4 : decode cX8_put 4 = .ok (.ifCond .ne 10, 3) := dk_154 (by decide +kernel)
theorem dX8_put_14 : decode cX8_put 14 = .ok (.aload_n 0, 1) := dk_42 (by decide +kernel)
theorem dX8_put_15 : decode cX8_put 15 = .ok (.getfield 31, 3) := dk_180 (by decide +kernel)
theorem dX8_put_18 : decode cX8_put 18 = .ok (.iload_n 1, 1) := dk_27 (by decide +kernel)
theorem dX8_put_19 : decode cX8_put 19 = .ok (.iaload, 1) := dk_46 (by decide +kernel)
theorem dX8_put_20 : decode cX8_put 20 = .ok (.ifCond .ne 10, 3) := dk_154 (by decide +kernel)
theorem dX8_put_30 : decode cX8_put 30 = .ok (.iload_n 2, 1) := dk_28 (by decide +kernel)
theorem dX8_put_31 : decode cX8_put 31 = .ok (.iconst 0, 1) := dk_3 (by decide +kernel)
theorem dX8_put_32 : decode cX8_put 32 = .ok (.aload_n 0, 1) := dk_42 (by decide +kernel)
theorem dX8_put_33 : decode cX8_put 33 = .ok (.getfield 34, 3) := dk_180 (by decide +kernel)
theorem dX8_put_36 : decode cX8_put 36 = .ok (.iload_n 1, 1) := dk_27 (by decide +kernel)
theorem dX8_put_37 : decode cX8_put 37 = .ok (.iaload, 1) := dk_46 (by decide +kernel)
theorem dX8_put_38 : decode cX8_put 38 = .ok (.iconst 1, 1) := dk_4 (by decide +kernel)
theorem dX8_put_39 : decode cX8_put 39 = .ok (.isub, 1) := dk_100 (by decide +kernel)
theorem dX8_put_40 : decode cX8_put 40 = .ok (.invokestatic 47, 3) := dk_184 (by decide +kernel)
theorem dX8_put_43 : decode cX8_put 43 = .ok (.ifCond .ne 10, 3) := dk_154 (by decide +kernel)
theorem dX8_put_53 : decode cX8_put 53 = .ok (.aload_n 0, 1) := dk_42 (by decide +kernel)
theorem dX8_put_54 : decode cX8_put 54 = .ok (.getfield 37, 3) := dk_180 (by decide +kernel)
theorem dX8_put_57 : decode cX8_put 57 = .ok (.bipush 40, 2) := dk_16 (by decide +kernel)
theorem dX8_put_59 : decode cX8_put 59 = .ok (.iload_n 1, 1) := dk_27 (by decide +kernel)
theorem dX8_put_60 : decode cX8_put 60 = .ok (.imul, 1) := dk_104 (by decide +kernel)
theorem dX8_put_61 : decode cX8_put 61 = .ok (.iload_n 2, 1) := dk_28 (by decide +kernel)
theorem dX8_put_62 : decode cX8_put 62 = .ok (.iadd, 1) := dk_96 (by decide +kernel)
theorem dX8_put_63 : decode cX8_put 63 = .ok (.aload_n 0, 1) := dk_42 (by decide +kernel)
theorem dX8_put_64 : decode cX8_put 64 = .ok (.getfield 31, 3) := dk_180 (by decide +kernel)
theorem dX8_put_67 : decode cX8_put 67 = .ok (.iload_n 1, 1) := dk_27 (by decide +kernel)
theorem dX8_put_68 : decode cX8_put 68 = .ok (.iaload, 1) := dk_46 (by decide +kernel)
theorem dX8_put_69 : decode cX8_put 69 = .ok (.iload_n 3, 1) := dk_29 (by decide +kernel)
theorem dX8_put_70 : decode cX8_put 70 = .ok (.invokestatic 241, 3) := dk_184 (by decide +kernel)
theorem dX8_put_73 : decode cX8_put 73 = .ok (.iastore, 1) := dk_79 (by decide +kernel)
theorem dX8_put_74 : decode cX8_put 74 = .ok (.iconst 1, 1) := dk_4 (by decide +kernel)
theorem dX8_put_75 : decode cX8_put 75 = .ok (.ireturn, 1) := dk_172 (by decide +kernel)
theorem dX8_put_46 : decode cX8_put 46 = .ok (.aload_n 0, 1) := dk_42 (by decide +kernel)
theorem dX8_put_47 : decode cX8_put 47 = .ok (.ldc 60, 2) := dk_18 (by decide +kernel)
theorem dX8_put_49 : decode cX8_put 49 = .ok (.invokevirtual 61, 3) := dk_182 (by decide +kernel)
theorem dX8_put_52 : decode cX8_put 52 = .ok (.ireturn, 1) := dk_172 (by decide +kernel)
theorem dX8_put_23 : decode cX8_put 23 = .ok (.aload_n 0, 1) := dk_42 (by decide +kernel)
theorem dX8_put_24 : decode cX8_put 24 = .ok (.ldc 194, 2) := dk_18 (by decide +kernel)
theorem dX8_put_26 : decode cX8_put 26 = .ok (.invokevirtual 61, 3) := dk_182 (by decide +kernel)
theorem dX8_put_29 : decode cX8_put 29 = .ok (.ireturn, 1) := dk_172 (by decide +kernel)
theorem dX8_put_7 : decode cX8_put 7 = .ok (.aload_n 0, 1) := dk_42 (by decide +kernel)
theorem dX8_put_8 : decode cX8_put 8 = .ok (.ldc 60, 2) := dk_18 (by decide +kernel)
theorem dX8_put_10 : decode cX8_put 10 = .ok (.invokevirtual 61, 3) := dk_182 (by decide +kernel)
theorem dX8_put_13 : decode cX8_put 13 = .ok (.ireturn, 1) := dk_172 (by decide +kernel)
set_option maxRecDepth 100000 in
set_option maxHeartbeats 8000000 in
theorem x_X8_put (l : Launch) (D : va_G) (y : wY) (ad : Nat → Nat) (i1 : Int32) (i2 : Int32) (i3 : Int32) (M : Mem) (K : Int32 → Mem → Prop) (h : wp_X8_put i1 i2 i3 M K) : MI l D y ad yX8_put (Cond.code yX8_put cX8_put 4 (some .int)) 2 M [.ref (ad 79), .int i1, .int i2, .int i3] K := by
  refine MI_of (by decide) (Nat.le_of_ble_eq_true rfl) ?_
  intro p e s m args below meth c X hr hlocks
  delta wp_X8_put at h
  refine j_lv (lv1 := [(0, .ref (ad 79)), (1, .int i1), (2, .int i2), (3, .int i3)]) [0, 1, 2, 3] rfl ?_
  refine j_iload_n X 1 rfl rfl dX8_put_0 ?_
  refine j_callSI X (nn := 1) (As := [.int i1]) (st := []) aw_653 (x_X8_isSheet l D y ad i1 _ _ h) aw_652 aw_654 aw_5 (by decide +kernel) ⟨Nat.le_of_ble_eq_true rfl, Nat.le_of_ble_eq_true rfl⟩ rfl (Nat.le_of_ble_eq_true rfl) ⟨Nat.le_of_ble_eq_true rfl, Nat.le_of_ble_eq_true rfl⟩ dX8_put_1 ?_
  intro r1 M1 h
  refine j_if_ne X 14 (by decide) dX8_put_4 (fun q_2 => ?_) (fun q_2 => ?_)
  · replace h := h.1 q_2
    refine j_aload_n X 0 rfl rfl dX8_put_14 ?_
    refine j_get X cl_79.1 (wE_8 _ cl_79.2) rfl awF8 15 (by decide) aw_99 rfl (v := .ref (ad 87)) rfl dX8_put_15 ?_
    refine j_iload_n X 1 rfl rfl dX8_put_18 ?_
    obtain ⟨hi_3, h⟩ := h
    refine j_iald X cl_87.1 cl_87.2 hi_3 dX8_put_19 ?_
    refine j_if_ne X 30 (by decide) dX8_put_20 (fun q_4 => ?_) (fun q_4 => ?_)
    · replace h := h.1 q_4
      refine j_iload_n X 2 rfl rfl dX8_put_30 ?_
      refine j_iconst X (v := 0) (by decide) dX8_put_31 ?_
      refine j_aload_n X 0 rfl rfl dX8_put_32 ?_
      refine j_get X cl_79.1 (wE_8 _ cl_79.2) rfl awF8 16 (by decide) aw_100 rfl (v := .ref (ad 88)) rfl dX8_put_33 ?_
      refine j_iload_n X 1 rfl rfl dX8_put_36 ?_
      obtain ⟨hi_5, h⟩ := h
      refine j_iald X cl_88.1 cl_88.2 hi_5 dX8_put_37 ?_
      refine j_iconst X (v := 1) (by decide) dX8_put_38 ?_
      refine j_isub X dX8_put_39 ?_
      refine j_callSI X (nn := 3) (As := [.int i2, .int 0, .int ((M1 88 i1.toNatClampNeg) - 1)]) (st := []) aw_134 (x_X8_in l D y ad i2 0 ((M1 88 i1.toNatClampNeg) - 1) _ _ h) aw_133 aw_135 aw_5 (by decide +kernel) ⟨Nat.le_of_ble_eq_true rfl, Nat.le_of_ble_eq_true rfl⟩ rfl (Nat.le_of_ble_eq_true rfl) ⟨Nat.le_of_ble_eq_true rfl, Nat.le_of_ble_eq_true rfl⟩ dX8_put_40 ?_
      intro r6 M6 h
      refine j_if_ne X 53 (by decide) dX8_put_43 (fun q_7 => ?_) (fun q_7 => ?_)
      · replace h := h.1 q_7
        refine j_aload_n X 0 rfl rfl dX8_put_53 ?_
        refine j_get X cl_79.1 (wE_8 _ cl_79.2) rfl awF8 17 (by decide) aw_101 rfl (v := .ref (ad 89)) rfl dX8_put_54 ?_
        refine j_bipush X (v := 40) (by decide) dX8_put_57 ?_
        refine j_iload_n X 1 rfl rfl dX8_put_59 ?_
        refine j_imul X dX8_put_60 ?_
        refine j_iload_n X 2 rfl rfl dX8_put_61 ?_
        refine j_iadd X dX8_put_62 ?_
        refine j_aload_n X 0 rfl rfl dX8_put_63 ?_
        refine j_get X cl_79.1 (wE_8 _ cl_79.2) rfl awF8 15 (by decide) aw_99 rfl (v := .ref (ad 87)) rfl dX8_put_64 ?_
        refine j_iload_n X 1 rfl rfl dX8_put_67 ?_
        obtain ⟨hi_8, h⟩ := h
        refine j_iald X cl_87.1 cl_87.2 hi_8 dX8_put_68 ?_
        refine j_iload_n X 3 rfl rfl dX8_put_69 ?_
        refine j_callSI X (nn := 2) (As := [.int (M6 87 i1.toNatClampNeg), .int i3]) (st := [.int ((40 * i1) + i2), .ref (ad 89)]) aw_832 (x_X8_narrow l D y ad (M6 87 i1.toNatClampNeg) i3 _ _ h) aw_831 aw_833 aw_5 (by decide +kernel) ⟨Nat.le_of_ble_eq_true rfl, Nat.le_of_ble_eq_true rfl⟩ rfl (Nat.le_of_ble_eq_true rfl) ⟨Nat.le_of_ble_eq_true rfl, Nat.le_of_ble_eq_true rfl⟩ dX8_put_70 ?_
        intro r9 M9 h
        obtain ⟨hi_10, h⟩ := h
        refine j_iast X cl_89.1 cl_89.2 hi_10 dX8_put_73 ?_
        refine j_iconst X (v := 1) (by decide) dX8_put_74 ?_
        exact j_iret X hr hlocks dX8_put_75 h
      · replace h := h.2 q_7
        refine j_aload_n X 0 rfl rfl dX8_put_46 ?_
        refine j_ldc X (v := (-1000000001)) aw_132 dX8_put_47 ?_
        refine j_callVI X (nn := 1) (As := [.int (-1000000001)]) (st := []) (ci := 8) cl_79.1 (wE_8 _ cl_79.2) rfl aw_144 aw_145 (x_X8_errs l D y ad (-1000000001) _ _ h) aw_143 aw_146 aw_5 (by decide +kernel) ⟨Nat.le_of_ble_eq_true rfl, Nat.le_of_ble_eq_true rfl⟩ rfl (Nat.le_of_ble_eq_true rfl) ⟨Nat.le_of_ble_eq_true rfl, Nat.le_of_ble_eq_true rfl⟩ dX8_put_49 ?_
        intro r11 M11 h
        exact j_iret X hr hlocks dX8_put_52 h
    · replace h := h.2 q_4
      refine j_aload_n X 0 rfl rfl dX8_put_23 ?_
      refine j_ldc X (v := (-1000000002)) aw_565 dX8_put_24 ?_
      refine j_callVI X (nn := 1) (As := [.int (-1000000002)]) (st := []) (ci := 8) cl_79.1 (wE_8 _ cl_79.2) rfl aw_144 aw_145 (x_X8_errs l D y ad (-1000000002) _ _ h) aw_143 aw_146 aw_5 (by decide +kernel) ⟨Nat.le_of_ble_eq_true rfl, Nat.le_of_ble_eq_true rfl⟩ rfl (Nat.le_of_ble_eq_true rfl) ⟨Nat.le_of_ble_eq_true rfl, Nat.le_of_ble_eq_true rfl⟩ dX8_put_26 ?_
      intro r12 M12 h
      exact j_iret X hr hlocks dX8_put_29 h
  · replace h := h.2 q_2
    refine j_aload_n X 0 rfl rfl dX8_put_7 ?_
    refine j_ldc X (v := (-1000000001)) aw_132 dX8_put_8 ?_
    refine j_callVI X (nn := 1) (As := [.int (-1000000001)]) (st := []) (ci := 8) cl_79.1 (wE_8 _ cl_79.2) rfl aw_144 aw_145 (x_X8_errs l D y ad (-1000000001) _ _ h) aw_143 aw_146 aw_5 (by decide +kernel) ⟨Nat.le_of_ble_eq_true rfl, Nat.le_of_ble_eq_true rfl⟩ rfl (Nat.le_of_ble_eq_true rfl) ⟨Nat.le_of_ble_eq_true rfl, Nat.le_of_ble_eq_true rfl⟩ dX8_put_10 ?_
    intro r13 M13 h
    exact j_iret X hr hlocks dX8_put_13 h
theorem dX8_move_156 : decode cX8_move 156 = .ok (.iload 6, 2) := dk_21 (by decide +kernel)
theorem dX8_move_158 : decode cX8_move 158 = .ok (.iload 5, 2) := dk_21 (by decide +kernel)
theorem dX8_move_160 : decode cX8_move 160 = .ok (.if_icmp .ge 31, 3) := dk_162 (by decide +kernel)
theorem dX8_move_191 : decode cX8_move 191 = .ok (.iload 5, 2) := dk_21 (by decide +kernel)
theorem dX8_move_193 : decode cX8_move 193 = .ok (.ireturn, 1) := dk_172 (by decide +kernel)
theorem dX8_move_163 : decode cX8_move 163 = .ok (.aload_n 0, 1) := dk_42 (by decide +kernel)
theorem dX8_move_164 : decode cX8_move 164 = .ok (.getfield 37, 3) := dk_180 (by decide +kernel)
theorem dX8_move_167 : decode cX8_move 167 = .ok (.bipush 40, 2) := dk_16 (by decide +kernel)
theorem dX8_move_169 : decode cX8_move 169 = .ok (.iload_n 3, 1) := dk_29 (by decide +kernel)
theorem dX8_move_170 : decode cX8_move 170 = .ok (.imul, 1) := dk_104 (by decide +kernel)
theorem dX8_move_171 : decode cX8_move 171 = .ok (.iload 4, 2) := dk_21 (by decide +kernel)
theorem dX8_move_173 : decode cX8_move 173 = .ok (.iadd, 1) := dk_96 (by decide +kernel)
theorem dX8_move_174 : decode cX8_move 174 = .ok (.iload 6, 2) := dk_21 (by decide +kernel)
theorem dX8_move_176 : decode cX8_move 176 = .ok (.iadd, 1) := dk_96 (by decide +kernel)
theorem dX8_move_177 : decode cX8_move 177 = .ok (.aload_n 0, 1) := dk_42 (by decide +kernel)
theorem dX8_move_178 : decode cX8_move 178 = .ok (.getfield 40, 3) := dk_180 (by decide +kernel)
theorem dX8_move_181 : decode cX8_move 181 = .ok (.iload 6, 2) := dk_21 (by decide +kernel)
theorem dX8_move_183 : decode cX8_move 183 = .ok (.iaload, 1) := dk_46 (by decide +kernel)
theorem dX8_move_184 : decode cX8_move 184 = .ok (.iastore, 1) := dk_79 (by decide +kernel)
theorem dX8_move_185 : decode cX8_move 185 = .ok (.iinc 6 1, 3) := dk_132 (by decide +kernel)
theorem dX8_move_188 : decode cX8_move 188 = .ok (.goto (-32), 3) := dk_167 (by decide +kernel)
theorem dX8_move_119 : decode cX8_move 119 = .ok (.iload 6, 2) := dk_21 (by decide +kernel)
theorem dX8_move_121 : decode cX8_move 121 = .ok (.iload 5, 2) := dk_21 (by decide +kernel)
theorem dX8_move_123 : decode cX8_move 123 = .ok (.if_icmp .ge 30, 3) := dk_162 (by decide +kernel)
theorem dX8_move_153 : decode cX8_move 153 = .ok (.iconst 0, 1) := dk_3 (by decide +kernel)
theorem dX8_move_154 : decode cX8_move 154 = .ok (.istore 6, 2) := dk_54 (by decide +kernel)
theorem dX8_move_126 : decode cX8_move 126 = .ok (.aload_n 0, 1) := dk_42 (by decide +kernel)
theorem dX8_move_127 : decode cX8_move 127 = .ok (.getfield 40, 3) := dk_180 (by decide +kernel)
theorem dX8_move_130 : decode cX8_move 130 = .ok (.iload 6, 2) := dk_21 (by decide +kernel)
theorem dX8_move_132 : decode cX8_move 132 = .ok (.aload_n 0, 1) := dk_42 (by decide +kernel)
theorem dX8_move_133 : decode cX8_move 133 = .ok (.getfield 37, 3) := dk_180 (by decide +kernel)
theorem dX8_move_136 : decode cX8_move 136 = .ok (.bipush 40, 2) := dk_16 (by decide +kernel)
theorem dX8_move_138 : decode cX8_move 138 = .ok (.iload_n 1, 1) := dk_27 (by decide +kernel)
theorem dX8_move_139 : decode cX8_move 139 = .ok (.imul, 1) := dk_104 (by decide +kernel)
theorem dX8_move_140 : decode cX8_move 140 = .ok (.iload_n 2, 1) := dk_28 (by decide +kernel)
theorem dX8_move_141 : decode cX8_move 141 = .ok (.iadd, 1) := dk_96 (by decide +kernel)
theorem dX8_move_142 : decode cX8_move 142 = .ok (.iload 6, 2) := dk_21 (by decide +kernel)
theorem dX8_move_144 : decode cX8_move 144 = .ok (.iadd, 1) := dk_96 (by decide +kernel)
theorem dX8_move_145 : decode cX8_move 145 = .ok (.iaload, 1) := dk_46 (by decide +kernel)
theorem dX8_move_146 : decode cX8_move 146 = .ok (.iastore, 1) := dk_79 (by decide +kernel)
theorem dX8_move_147 : decode cX8_move 147 = .ok (.iinc 6 1, 3) := dk_132 (by decide +kernel)
theorem dX8_move_150 : decode cX8_move 150 = .ok (.goto (-31), 3) := dk_167 (by decide +kernel)
theorem dX8_move_0 : decode cX8_move 0 = .ok (.iload_n 1, 1) := dk_27 (by decide +kernel)
theorem dX8_move_1 : decode cX8_move 1 = .ok (.invokestatic 205, 3) := dk_184 (by decide +kernel)
theorem dX8_move_4 : decode cX8_move 4 = .ok (.ifCond .eq 10, 3) := dk_153 (by decide +kernel)
theorem dX8_move_14 : decode cX8_move 14 = .ok (.aload_n 0, 1) := dk_42 (by decide +kernel)
theorem dX8_move_15 : decode cX8_move 15 = .ok (.ldc 60, 2) := dk_18 (by decide +kernel)
theorem dX8_move_17 : decode cX8_move 17 = .ok (.invokevirtual 61, 3) := dk_182 (by decide +kernel)
theorem dX8_move_20 : decode cX8_move 20 = .ok (.ireturn, 1) := dk_172 (by decide +kernel)
theorem dX8_move_7 : decode cX8_move 7 = .ok (.iload_n 3, 1) := dk_29 (by decide +kernel)
theorem dX8_move_8 : decode cX8_move 8 = .ok (.invokestatic 205, 3) := dk_184 (by decide +kernel)
theorem dX8_move_11 : decode cX8_move 11 = .ok (.ifCond .ne 10, 3) := dk_154 (by decide +kernel)
theorem dX8_move_21 : decode cX8_move 21 = .ok (.aload_n 0, 1) := dk_42 (by decide +kernel)
theorem dX8_move_22 : decode cX8_move 22 = .ok (.getfield 31, 3) := dk_180 (by decide +kernel)
theorem dX8_move_25 : decode cX8_move 25 = .ok (.iload_n 1, 1) := dk_27 (by decide +kernel)
theorem dX8_move_26 : decode cX8_move 26 = .ok (.iaload, 1) := dk_46 (by decide +kernel)
theorem dX8_move_27 : decode cX8_move 27 = .ok (.ifCond .eq 12, 3) := dk_153 (by decide +kernel)
theorem dX8_move_39 : decode cX8_move 39 = .ok (.aload_n 0, 1) := dk_42 (by decide +kernel)
theorem dX8_move_40 : decode cX8_move 40 = .ok (.ldc 194, 2) := dk_18 (by decide +kernel)
theorem dX8_move_42 : decode cX8_move 42 = .ok (.invokevirtual 61, 3) := dk_182 (by decide +kernel)
theorem dX8_move_45 : decode cX8_move 45 = .ok (.ireturn, 1) := dk_172 (by decide +kernel)
theorem dX8_move_30 : decode cX8_move 30 = .ok (.aload_n 0, 1) := dk_42 (by decide +kernel)
theorem dX8_move_31 : decode cX8_move 31 = .ok (.getfield 31, 3) := dk_180 (by decide +kernel)
theorem dX8_move_34 : decode cX8_move 34 = .ok (.iload_n 3, 1) := dk_29 (by decide +kernel)
theorem dX8_move_35 : decode cX8_move 35 = .ok (.iaload, 1) := dk_46 (by decide +kernel)
theorem dX8_move_36 : decode cX8_move 36 = .ok (.ifCond .ne 10, 3) := dk_154 (by decide +kernel)
theorem dX8_move_46 : decode cX8_move 46 = .ok (.aload_n 0, 1) := dk_42 (by decide +kernel)
theorem dX8_move_47 : decode cX8_move 47 = .ok (.getfield 31, 3) := dk_180 (by decide +kernel)
theorem dX8_move_50 : decode cX8_move 50 = .ok (.iload_n 1, 1) := dk_27 (by decide +kernel)
theorem dX8_move_51 : decode cX8_move 51 = .ok (.iaload, 1) := dk_46 (by decide +kernel)
theorem dX8_move_52 : decode cX8_move 52 = .ok (.aload_n 0, 1) := dk_42 (by decide +kernel)
theorem dX8_move_53 : decode cX8_move 53 = .ok (.getfield 31, 3) := dk_180 (by decide +kernel)
theorem dX8_move_56 : decode cX8_move 56 = .ok (.iload_n 3, 1) := dk_29 (by decide +kernel)
theorem dX8_move_57 : decode cX8_move 57 = .ok (.iaload, 1) := dk_46 (by decide +kernel)
theorem dX8_move_58 : decode cX8_move 58 = .ok (.if_icmp .eq 10, 3) := dk_159 (by decide +kernel)
theorem dX8_move_68 : decode cX8_move 68 = .ok (.iload 5, 2) := dk_21 (by decide +kernel)
theorem dX8_move_70 : decode cX8_move 70 = .ok (.ifCond .lt 39, 3) := dk_155 (by decide +kernel)
theorem dX8_move_109 : decode cX8_move 109 = .ok (.aload_n 0, 1) := dk_42 (by decide +kernel)
theorem dX8_move_110 : decode cX8_move 110 = .ok (.ldc 60, 2) := dk_18 (by decide +kernel)
theorem dX8_move_112 : decode cX8_move 112 = .ok (.invokevirtual 61, 3) := dk_182 (by decide +kernel)
theorem dX8_move_115 : decode cX8_move 115 = .ok (.ireturn, 1) := dk_172 (by decide +kernel)
theorem dX8_move_73 : decode cX8_move 73 = .ok (.iload_n 2, 1) := dk_28 (by decide +kernel)
theorem dX8_move_74 : decode cX8_move 74 = .ok (.ifCond .lt 35, 3) := dk_155 (by decide +kernel)
theorem dX8_move_77 : decode cX8_move 77 = .ok (.iload 4, 2) := dk_21 (by decide +kernel)
theorem dX8_move_79 : decode cX8_move 79 = .ok (.ifCond .lt 30, 3) := dk_155 (by decide +kernel)
theorem dX8_move_82 : decode cX8_move 82 = .ok (.iload_n 2, 1) := dk_28 (by decide +kernel)
theorem dX8_move_83 : decode cX8_move 83 = .ok (.aload_n 0, 1) := dk_42 (by decide +kernel)
theorem dX8_move_84 : decode cX8_move 84 = .ok (.getfield 34, 3) := dk_180 (by decide +kernel)
theorem dX8_move_87 : decode cX8_move 87 = .ok (.iload_n 1, 1) := dk_27 (by decide +kernel)
theorem dX8_move_88 : decode cX8_move 88 = .ok (.iaload, 1) := dk_46 (by decide +kernel)
theorem dX8_move_89 : decode cX8_move 89 = .ok (.iload 5, 2) := dk_21 (by decide +kernel)
theorem dX8_move_91 : decode cX8_move 91 = .ok (.isub, 1) := dk_100 (by decide +kernel)
theorem dX8_move_92 : decode cX8_move 92 = .ok (.if_icmp .gt 17, 3) := dk_163 (by decide +kernel)
theorem dX8_move_95 : decode cX8_move 95 = .ok (.iload 4, 2) := dk_21 (by decide +kernel)
theorem dX8_move_97 : decode cX8_move 97 = .ok (.aload_n 0, 1) := dk_42 (by decide +kernel)
theorem dX8_move_98 : decode cX8_move 98 = .ok (.getfield 34, 3) := dk_180 (by decide +kernel)
theorem dX8_move_101 : decode cX8_move 101 = .ok (.iload_n 3, 1) := dk_29 (by decide +kernel)
theorem dX8_move_102 : decode cX8_move 102 = .ok (.iaload, 1) := dk_46 (by decide +kernel)
theorem dX8_move_103 : decode cX8_move 103 = .ok (.iload 5, 2) := dk_21 (by decide +kernel)
theorem dX8_move_105 : decode cX8_move 105 = .ok (.isub, 1) := dk_100 (by decide +kernel)
theorem dX8_move_106 : decode cX8_move 106 = .ok (.if_icmp .le 10, 3) := dk_164 (by decide +kernel)
theorem dX8_move_116 : decode cX8_move 116 = .ok (.iconst 0, 1) := dk_3 (by decide +kernel)
theorem dX8_move_117 : decode cX8_move 117 = .ok (.istore 6, 2) := dk_54 (by decide +kernel)
theorem dX8_move_61 : decode cX8_move 61 = .ok (.aload_n 0, 1) := dk_42 (by decide +kernel)
theorem dX8_move_62 : decode cX8_move 62 = .ok (.ldc 88, 2) := dk_18 (by decide +kernel)
theorem dX8_move_64 : decode cX8_move 64 = .ok (.invokevirtual 61, 3) := dk_182 (by decide +kernel)
theorem dX8_move_67 : decode cX8_move 67 = .ok (.ireturn, 1) := dk_172 (by decide +kernel)
set_option maxRecDepth 100000 in
set_option maxHeartbeats 8000000 in
theorem x_X8_move (l : Launch) (D : va_G) (y : wY) (ad : Nat → Nat) (i1 : Int32) (i2 : Int32) (i3 : Int32) (i4 : Int32) (i5 : Int32) (M : Mem) (K : Int32 → Mem → Prop) (h : wp_X8_move i1 i2 i3 i4 i5 M K) : MI l D y ad yX8_move (Cond.code yX8_move cX8_move 7 (some .int)) 2 M [.ref (ad 79), .int i1, .int i2, .int i3, .int i4, .int i5] K := by
  refine MI_of (by decide) (Nat.le_of_ble_eq_true rfl) ?_
  intro p e s m args below meth c X hr hlocks
  have hL156 : ∀ (i3 : Int32) (i4 : Int32) (i5 : Int32) (n : Nat) (i6 : Int32) (Mb : Mem), wp_X8_move_L156 K i3 i4 i5 n i6 Mb → J p l e (rmN 2) s m args below meth c 0 0 (QI K D y ad M s args below) D y ad (va_A (PL y ad M) s.heap.size) 7 Mb 156 [(0, .ref (ad 79)), (3, .int i3), (4, .int i4), (5, .int i5), (6, .int i6)] [] := by
    intro i3 i4 i5 n
    induction n with
    | zero => intro i6 Mb h; exact False.elim h
    | succ n hB156 =>
      intro i6 Mb h
      replace h : wp_X8_move_l156 K i3 i4 i5 (wp_X8_move_L156 K i3 i4 i5 n) i6 Mb := h
      delta wp_X8_move_l156 at h
      refine j_iload X 4 rfl dX8_move_156 ?_
      refine j_iload X 3 rfl dX8_move_158 ?_
      refine j_icmp_ge X 191 (by decide) dX8_move_160 (fun q_15601 => ?_) (fun q_15601 => ?_)
      · replace h := h.1 q_15601
        refine j_iload X 3 rfl dX8_move_191 ?_
        exact j_iret X hr hlocks dX8_move_193 h
      · replace h := h.2 q_15601
        refine j_aload_n X 0 rfl rfl dX8_move_163 ?_
        refine j_get X cl_79.1 (wE_8 _ cl_79.2) rfl awF8 17 (by decide) aw_101 rfl (v := .ref (ad 89)) rfl dX8_move_164 ?_
        refine j_bipush X (v := 40) (by decide) dX8_move_167 ?_
        refine j_iload_n X 1 rfl rfl dX8_move_169 ?_
        refine j_imul X dX8_move_170 ?_
        refine j_iload X 2 rfl dX8_move_171 ?_
        refine j_iadd X dX8_move_173 ?_
        refine j_iload X 4 rfl dX8_move_174 ?_
        refine j_iadd X dX8_move_176 ?_
        refine j_aload_n X 0 rfl rfl dX8_move_177 ?_
        refine j_get X cl_79.1 (wE_8 _ cl_79.2) rfl awF8 18 (by decide) aw_102 rfl (v := .ref (ad 90)) rfl dX8_move_178 ?_
        refine j_iload X 4 rfl dX8_move_181 ?_
        obtain ⟨hi_15602, h⟩ := h
        refine j_iald X cl_90.1 cl_90.2 hi_15602 dX8_move_183 ?_
        obtain ⟨hi_15603, h⟩ := h
        refine j_iast X cl_89.1 cl_89.2 hi_15603 dX8_move_184 ?_
        refine j_iinc X (v := (i6 + 1)) 4 [(6, .int (i6 + 1)), (0, .ref (ad 79)), (3, .int i3), (4, .int i4), (5, .int i5)] rfl rfl (by decide) rfl dX8_move_185 ?_
        refine j_goto X 156 (by decide) dX8_move_188 ?_
        refine j_lv (lv1 := [(0, .ref (ad 79)), (3, .int i3), (4, .int i4), (5, .int i5), (6, .int (i6 + 1))]) [1, 2, 3, 4, 0] rfl ?_
        exact hB156 _ _ h
  have hL119 : ∀ (i1 : Int32) (i2 : Int32) (i3 : Int32) (i4 : Int32) (i5 : Int32) (n : Nat) (i6 : Int32) (Mb : Mem), wp_X8_move_L119 K i1 i2 i3 i4 i5 n i6 Mb → J p l e (rmN 2) s m args below meth c 0 0 (QI K D y ad M s args below) D y ad (va_A (PL y ad M) s.heap.size) 7 Mb 119 [(0, .ref (ad 79)), (1, .int i1), (2, .int i2), (3, .int i3), (4, .int i4), (5, .int i5), (6, .int i6)] [] := by
    intro i1 i2 i3 i4 i5 n
    induction n with
    | zero => intro i6 Mb h; exact False.elim h
    | succ n hB119 =>
      intro i6 Mb h
      replace h : wp_X8_move_l119 K i1 i2 i3 i4 i5 (wp_X8_move_L119 K i1 i2 i3 i4 i5 n) i6 Mb := h
      delta wp_X8_move_l119 at h
      refine j_iload X 6 rfl dX8_move_119 ?_
      refine j_iload X 5 rfl dX8_move_121 ?_
      refine j_icmp_ge X 153 (by decide) dX8_move_123 (fun q_11901 => ?_) (fun q_11901 => ?_)
      · replace h := h.1 q_11901
        refine j_iconst X (v := 0) (by decide) dX8_move_153 ?_
        refine j_istore X [(6, .int 0), (0, .ref (ad 79)), (1, .int i1), (2, .int i2), (3, .int i3), (4, .int i4), (5, .int i5)] (by decide) rfl dX8_move_154 ?_
        refine j_lv (lv1 := [(0, .ref (ad 79)), (3, .int i3), (4, .int i4), (5, .int i5), (6, .int 0)]) [1, 4, 5, 6, 0] rfl ?_
        obtain ⟨n156, h⟩ := h
        exact hL156 _ _ _   n156 _ _ h
      · replace h := h.2 q_11901
        refine j_aload_n X 0 rfl rfl dX8_move_126 ?_
        refine j_get X cl_79.1 (wE_8 _ cl_79.2) rfl awF8 18 (by decide) aw_102 rfl (v := .ref (ad 90)) rfl dX8_move_127 ?_
        refine j_iload X 6 rfl dX8_move_130 ?_
        refine j_aload_n X 0 rfl rfl dX8_move_132 ?_
        refine j_get X cl_79.1 (wE_8 _ cl_79.2) rfl awF8 17 (by decide) aw_101 rfl (v := .ref (ad 89)) rfl dX8_move_133 ?_
        refine j_bipush X (v := 40) (by decide) dX8_move_136 ?_
        refine j_iload_n X 1 rfl rfl dX8_move_138 ?_
        refine j_imul X dX8_move_139 ?_
        refine j_iload_n X 2 rfl rfl dX8_move_140 ?_
        refine j_iadd X dX8_move_141 ?_
        refine j_iload X 6 rfl dX8_move_142 ?_
        refine j_iadd X dX8_move_144 ?_
        obtain ⟨hi_11902, h⟩ := h
        refine j_iald X cl_89.1 cl_89.2 hi_11902 dX8_move_145 ?_
        obtain ⟨hi_11903, h⟩ := h
        refine j_iast X cl_90.1 cl_90.2 hi_11903 dX8_move_146 ?_
        refine j_iinc X (v := (i6 + 1)) 6 [(6, .int (i6 + 1)), (0, .ref (ad 79)), (1, .int i1), (2, .int i2), (3, .int i3), (4, .int i4), (5, .int i5)] rfl rfl (by decide) rfl dX8_move_147 ?_
        refine j_goto X 119 (by decide) dX8_move_150 ?_
        refine j_lv (lv1 := [(0, .ref (ad 79)), (1, .int i1), (2, .int i2), (3, .int i3), (4, .int i4), (5, .int i5), (6, .int (i6 + 1))]) [1, 2, 3, 4, 5, 6, 0] rfl ?_
        exact hB119 _ _ h
  delta wp_X8_move at h
  refine j_lv (lv1 := [(0, .ref (ad 79)), (1, .int i1), (2, .int i2), (3, .int i3), (4, .int i4), (5, .int i5)]) [0, 1, 2, 3, 4, 5] rfl ?_
  refine j_iload_n X 1 rfl rfl dX8_move_0 ?_
  refine j_callSI X (nn := 1) (As := [.int i1]) (st := []) aw_653 (x_X8_isSheet l D y ad i1 _ _ h) aw_652 aw_654 aw_5 (by decide +kernel) ⟨Nat.le_of_ble_eq_true rfl, Nat.le_of_ble_eq_true rfl⟩ rfl (Nat.le_of_ble_eq_true rfl) ⟨Nat.le_of_ble_eq_true rfl, Nat.le_of_ble_eq_true rfl⟩ dX8_move_1 ?_
  intro r1 M1 h
  refine j_if_eq X 14 (by decide) dX8_move_4 (fun q_2 => ?_) (fun q_2 => ?_)
  · replace h := h.1 q_2
    refine j_aload_n X 0 rfl rfl dX8_move_14 ?_
    refine j_ldc X (v := (-1000000001)) aw_132 dX8_move_15 ?_
    refine j_callVI X (nn := 1) (As := [.int (-1000000001)]) (st := []) (ci := 8) cl_79.1 (wE_8 _ cl_79.2) rfl aw_144 aw_145 (x_X8_errs l D y ad (-1000000001) _ _ h) aw_143 aw_146 aw_5 (by decide +kernel) ⟨Nat.le_of_ble_eq_true rfl, Nat.le_of_ble_eq_true rfl⟩ rfl (Nat.le_of_ble_eq_true rfl) ⟨Nat.le_of_ble_eq_true rfl, Nat.le_of_ble_eq_true rfl⟩ dX8_move_17 ?_
    intro r3 M3 h
    exact j_iret X hr hlocks dX8_move_20 h
  · replace h := h.2 q_2
    refine j_iload_n X 3 rfl rfl dX8_move_7 ?_
    refine j_callSI X (nn := 1) (As := [.int i3]) (st := []) aw_653 (x_X8_isSheet l D y ad i3 _ _ h) aw_652 aw_654 aw_5 (by decide +kernel) ⟨Nat.le_of_ble_eq_true rfl, Nat.le_of_ble_eq_true rfl⟩ rfl (Nat.le_of_ble_eq_true rfl) ⟨Nat.le_of_ble_eq_true rfl, Nat.le_of_ble_eq_true rfl⟩ dX8_move_8 ?_
    intro r4 M4 h
    refine j_if_ne X 21 (by decide) dX8_move_11 (fun q_5 => ?_) (fun q_5 => ?_)
    · replace h := h.1 q_5
      refine j_aload_n X 0 rfl rfl dX8_move_21 ?_
      refine j_get X cl_79.1 (wE_8 _ cl_79.2) rfl awF8 15 (by decide) aw_99 rfl (v := .ref (ad 87)) rfl dX8_move_22 ?_
      refine j_iload_n X 1 rfl rfl dX8_move_25 ?_
      obtain ⟨hi_6, h⟩ := h
      refine j_iald X cl_87.1 cl_87.2 hi_6 dX8_move_26 ?_
      refine j_if_eq X 39 (by decide) dX8_move_27 (fun q_7 => ?_) (fun q_7 => ?_)
      · replace h := h.1 q_7
        refine j_aload_n X 0 rfl rfl dX8_move_39 ?_
        refine j_ldc X (v := (-1000000002)) aw_565 dX8_move_40 ?_
        refine j_callVI X (nn := 1) (As := [.int (-1000000002)]) (st := []) (ci := 8) cl_79.1 (wE_8 _ cl_79.2) rfl aw_144 aw_145 (x_X8_errs l D y ad (-1000000002) _ _ h) aw_143 aw_146 aw_5 (by decide +kernel) ⟨Nat.le_of_ble_eq_true rfl, Nat.le_of_ble_eq_true rfl⟩ rfl (Nat.le_of_ble_eq_true rfl) ⟨Nat.le_of_ble_eq_true rfl, Nat.le_of_ble_eq_true rfl⟩ dX8_move_42 ?_
        intro r8 M8 h
        exact j_iret X hr hlocks dX8_move_45 h
      · replace h := h.2 q_7
        refine j_aload_n X 0 rfl rfl dX8_move_30 ?_
        refine j_get X cl_79.1 (wE_8 _ cl_79.2) rfl awF8 15 (by decide) aw_99 rfl (v := .ref (ad 87)) rfl dX8_move_31 ?_
        refine j_iload_n X 3 rfl rfl dX8_move_34 ?_
        obtain ⟨hi_9, h⟩ := h
        refine j_iald X cl_87.1 cl_87.2 hi_9 dX8_move_35 ?_
        refine j_if_ne X 46 (by decide) dX8_move_36 (fun q_10 => ?_) (fun q_10 => ?_)
        · replace h := h.1 q_10
          refine j_aload_n X 0 rfl rfl dX8_move_46 ?_
          refine j_get X cl_79.1 (wE_8 _ cl_79.2) rfl awF8 15 (by decide) aw_99 rfl (v := .ref (ad 87)) rfl dX8_move_47 ?_
          refine j_iload_n X 1 rfl rfl dX8_move_50 ?_
          obtain ⟨hi_11, h⟩ := h
          refine j_iald X cl_87.1 cl_87.2 hi_11 dX8_move_51 ?_
          refine j_aload_n X 0 rfl rfl dX8_move_52 ?_
          refine j_get X cl_79.1 (wE_8 _ cl_79.2) rfl awF8 15 (by decide) aw_99 rfl (v := .ref (ad 87)) rfl dX8_move_53 ?_
          refine j_iload_n X 3 rfl rfl dX8_move_56 ?_
          obtain ⟨hi_12, h⟩ := h
          refine j_iald X cl_87.1 cl_87.2 hi_12 dX8_move_57 ?_
          refine j_icmp_eq X 68 (by decide) dX8_move_58 (fun q_13 => ?_) (fun q_13 => ?_)
          · replace h := h.1 q_13
            refine j_iload X 5 rfl dX8_move_68 ?_
            refine j_if_lt X 109 (by decide) dX8_move_70 (fun q_14 => ?_) (fun q_14 => ?_)
            · replace h := h.1 q_14
              refine j_aload_n X 0 rfl rfl dX8_move_109 ?_
              refine j_ldc X (v := (-1000000001)) aw_132 dX8_move_110 ?_
              refine j_callVI X (nn := 1) (As := [.int (-1000000001)]) (st := []) (ci := 8) cl_79.1 (wE_8 _ cl_79.2) rfl aw_144 aw_145 (x_X8_errs l D y ad (-1000000001) _ _ h) aw_143 aw_146 aw_5 (by decide +kernel) ⟨Nat.le_of_ble_eq_true rfl, Nat.le_of_ble_eq_true rfl⟩ rfl (Nat.le_of_ble_eq_true rfl) ⟨Nat.le_of_ble_eq_true rfl, Nat.le_of_ble_eq_true rfl⟩ dX8_move_112 ?_
              intro r15 M15 h
              exact j_iret X hr hlocks dX8_move_115 h
            · replace h := h.2 q_14
              refine j_iload_n X 2 rfl rfl dX8_move_73 ?_
              refine j_if_lt X 109 (by decide) dX8_move_74 (fun q_16 => ?_) (fun q_16 => ?_)
              · replace h := h.1 q_16
                refine j_aload_n X 0 rfl rfl dX8_move_109 ?_
                refine j_ldc X (v := (-1000000001)) aw_132 dX8_move_110 ?_
                refine j_callVI X (nn := 1) (As := [.int (-1000000001)]) (st := []) (ci := 8) cl_79.1 (wE_8 _ cl_79.2) rfl aw_144 aw_145 (x_X8_errs l D y ad (-1000000001) _ _ h) aw_143 aw_146 aw_5 (by decide +kernel) ⟨Nat.le_of_ble_eq_true rfl, Nat.le_of_ble_eq_true rfl⟩ rfl (Nat.le_of_ble_eq_true rfl) ⟨Nat.le_of_ble_eq_true rfl, Nat.le_of_ble_eq_true rfl⟩ dX8_move_112 ?_
                intro r17 M17 h
                exact j_iret X hr hlocks dX8_move_115 h
              · replace h := h.2 q_16
                refine j_iload X 4 rfl dX8_move_77 ?_
                refine j_if_lt X 109 (by decide) dX8_move_79 (fun q_18 => ?_) (fun q_18 => ?_)
                · replace h := h.1 q_18
                  refine j_aload_n X 0 rfl rfl dX8_move_109 ?_
                  refine j_ldc X (v := (-1000000001)) aw_132 dX8_move_110 ?_
                  refine j_callVI X (nn := 1) (As := [.int (-1000000001)]) (st := []) (ci := 8) cl_79.1 (wE_8 _ cl_79.2) rfl aw_144 aw_145 (x_X8_errs l D y ad (-1000000001) _ _ h) aw_143 aw_146 aw_5 (by decide +kernel) ⟨Nat.le_of_ble_eq_true rfl, Nat.le_of_ble_eq_true rfl⟩ rfl (Nat.le_of_ble_eq_true rfl) ⟨Nat.le_of_ble_eq_true rfl, Nat.le_of_ble_eq_true rfl⟩ dX8_move_112 ?_
                  intro r19 M19 h
                  exact j_iret X hr hlocks dX8_move_115 h
                · replace h := h.2 q_18
                  refine j_iload_n X 2 rfl rfl dX8_move_82 ?_
                  refine j_aload_n X 0 rfl rfl dX8_move_83 ?_
                  refine j_get X cl_79.1 (wE_8 _ cl_79.2) rfl awF8 16 (by decide) aw_100 rfl (v := .ref (ad 88)) rfl dX8_move_84 ?_
                  refine j_iload_n X 1 rfl rfl dX8_move_87 ?_
                  obtain ⟨hi_20, h⟩ := h
                  refine j_iald X cl_88.1 cl_88.2 hi_20 dX8_move_88 ?_
                  refine j_iload X 5 rfl dX8_move_89 ?_
                  refine j_isub X dX8_move_91 ?_
                  refine j_icmp_gt X 109 (by decide) dX8_move_92 (fun q_21 => ?_) (fun q_21 => ?_)
                  · replace h := h.1 q_21
                    refine j_aload_n X 0 rfl rfl dX8_move_109 ?_
                    refine j_ldc X (v := (-1000000001)) aw_132 dX8_move_110 ?_
                    refine j_callVI X (nn := 1) (As := [.int (-1000000001)]) (st := []) (ci := 8) cl_79.1 (wE_8 _ cl_79.2) rfl aw_144 aw_145 (x_X8_errs l D y ad (-1000000001) _ _ h) aw_143 aw_146 aw_5 (by decide +kernel) ⟨Nat.le_of_ble_eq_true rfl, Nat.le_of_ble_eq_true rfl⟩ rfl (Nat.le_of_ble_eq_true rfl) ⟨Nat.le_of_ble_eq_true rfl, Nat.le_of_ble_eq_true rfl⟩ dX8_move_112 ?_
                    intro r22 M22 h
                    exact j_iret X hr hlocks dX8_move_115 h
                  · replace h := h.2 q_21
                    refine j_iload X 4 rfl dX8_move_95 ?_
                    refine j_aload_n X 0 rfl rfl dX8_move_97 ?_
                    refine j_get X cl_79.1 (wE_8 _ cl_79.2) rfl awF8 16 (by decide) aw_100 rfl (v := .ref (ad 88)) rfl dX8_move_98 ?_
                    refine j_iload_n X 3 rfl rfl dX8_move_101 ?_
                    obtain ⟨hi_23, h⟩ := h
                    refine j_iald X cl_88.1 cl_88.2 hi_23 dX8_move_102 ?_
                    refine j_iload X 5 rfl dX8_move_103 ?_
                    refine j_isub X dX8_move_105 ?_
                    refine j_icmp_le X 116 (by decide) dX8_move_106 (fun q_24 => ?_) (fun q_24 => ?_)
                    · replace h := h.1 q_24
                      refine j_iconst X (v := 0) (by decide) dX8_move_116 ?_
                      refine j_istore X [(6, .int 0), (0, .ref (ad 79)), (1, .int i1), (2, .int i2), (3, .int i3), (4, .int i4), (5, .int i5)] (by decide) rfl dX8_move_117 ?_
                      refine j_lv (lv1 := [(0, .ref (ad 79)), (1, .int i1), (2, .int i2), (3, .int i3), (4, .int i4), (5, .int i5), (6, .int 0)]) [1, 2, 3, 4, 5, 6, 0] rfl ?_
                      obtain ⟨n119, h⟩ := h
                      exact hL119 _ _ _ _ _   n119 _ _ h
                    · replace h := h.2 q_24
                      refine j_aload_n X 0 rfl rfl dX8_move_109 ?_
                      refine j_ldc X (v := (-1000000001)) aw_132 dX8_move_110 ?_
                      refine j_callVI X (nn := 1) (As := [.int (-1000000001)]) (st := []) (ci := 8) cl_79.1 (wE_8 _ cl_79.2) rfl aw_144 aw_145 (x_X8_errs l D y ad (-1000000001) _ _ h) aw_143 aw_146 aw_5 (by decide +kernel) ⟨Nat.le_of_ble_eq_true rfl, Nat.le_of_ble_eq_true rfl⟩ rfl (Nat.le_of_ble_eq_true rfl) ⟨Nat.le_of_ble_eq_true rfl, Nat.le_of_ble_eq_true rfl⟩ dX8_move_112 ?_
                      intro r25 M25 h
                      exact j_iret X hr hlocks dX8_move_115 h
          · replace h := h.2 q_13
            refine j_aload_n X 0 rfl rfl dX8_move_61 ?_
            refine j_ldc X (v := (-1000000005)) aw_297 dX8_move_62 ?_
            refine j_callVI X (nn := 1) (As := [.int (-1000000005)]) (st := []) (ci := 8) cl_79.1 (wE_8 _ cl_79.2) rfl aw_144 aw_145 (x_X8_errs l D y ad (-1000000005) _ _ h) aw_143 aw_146 aw_5 (by decide +kernel) ⟨Nat.le_of_ble_eq_true rfl, Nat.le_of_ble_eq_true rfl⟩ rfl (Nat.le_of_ble_eq_true rfl) ⟨Nat.le_of_ble_eq_true rfl, Nat.le_of_ble_eq_true rfl⟩ dX8_move_64 ?_
            intro r26 M26 h
            exact j_iret X hr hlocks dX8_move_67 h
        · replace h := h.2 q_10
          refine j_aload_n X 0 rfl rfl dX8_move_39 ?_
          refine j_ldc X (v := (-1000000002)) aw_565 dX8_move_40 ?_
          refine j_callVI X (nn := 1) (As := [.int (-1000000002)]) (st := []) (ci := 8) cl_79.1 (wE_8 _ cl_79.2) rfl aw_144 aw_145 (x_X8_errs l D y ad (-1000000002) _ _ h) aw_143 aw_146 aw_5 (by decide +kernel) ⟨Nat.le_of_ble_eq_true rfl, Nat.le_of_ble_eq_true rfl⟩ rfl (Nat.le_of_ble_eq_true rfl) ⟨Nat.le_of_ble_eq_true rfl, Nat.le_of_ble_eq_true rfl⟩ dX8_move_42 ?_
          intro r27 M27 h
          exact j_iret X hr hlocks dX8_move_45 h
    · replace h := h.2 q_5
      refine j_aload_n X 0 rfl rfl dX8_move_14 ?_
      refine j_ldc X (v := (-1000000001)) aw_132 dX8_move_15 ?_
      refine j_callVI X (nn := 1) (As := [.int (-1000000001)]) (st := []) (ci := 8) cl_79.1 (wE_8 _ cl_79.2) rfl aw_144 aw_145 (x_X8_errs l D y ad (-1000000001) _ _ h) aw_143 aw_146 aw_5 (by decide +kernel) ⟨Nat.le_of_ble_eq_true rfl, Nat.le_of_ble_eq_true rfl⟩ rfl (Nat.le_of_ble_eq_true rfl) ⟨Nat.le_of_ble_eq_true rfl, Nat.le_of_ble_eq_true rfl⟩ dX8_move_17 ?_
      intro r28 M28 h
      exact j_iret X hr hlocks dX8_move_20 h
theorem dX8_edges_32 : decode cX8_edges 32 = .ok (.iload_n 2, 1) := dk_28 (by decide +kernel)
theorem dX8_edges_33 : decode cX8_edges 33 = .ok (.aload_n 0, 1) := dk_42 (by decide +kernel)
theorem dX8_edges_34 : decode cX8_edges 34 = .ok (.getfield 34, 3) := dk_180 (by decide +kernel)
theorem dX8_edges_37 : decode cX8_edges 37 = .ok (.iload_n 1, 1) := dk_27 (by decide +kernel)
theorem dX8_edges_38 : decode cX8_edges 38 = .ok (.iaload, 1) := dk_46 (by decide +kernel)
theorem dX8_edges_39 : decode cX8_edges 39 = .ok (.if_icmp .ge 54, 3) := dk_162 (by decide +kernel)
theorem dX8_edges_93 : decode cX8_edges 93 = .ok (.iload_n 2, 1) := dk_28 (by decide +kernel)
theorem dX8_edges_94 : decode cX8_edges 94 = .ok (.ireturn, 1) := dk_172 (by decide +kernel)
theorem dX8_edges_42 : decode cX8_edges 42 = .ok (.aload_n 0, 1) := dk_42 (by decide +kernel)
theorem dX8_edges_43 : decode cX8_edges 43 = .ok (.iload_n 2, 1) := dk_28 (by decide +kernel)
theorem dX8_edges_44 : decode cX8_edges 44 = .ok (.invokevirtual 73, 3) := dk_182 (by decide +kernel)
theorem dX8_edges_47 : decode cX8_edges 47 = .ok (.ifCond .eq 46, 3) := dk_153 (by decide +kernel)
theorem dX8_edges_50 : decode cX8_edges 50 = .ok (.aload_n 0, 1) := dk_42 (by decide +kernel)
theorem dX8_edges_51 : decode cX8_edges 51 = .ok (.getfield 37, 3) := dk_180 (by decide +kernel)
theorem dX8_edges_54 : decode cX8_edges 54 = .ok (.bipush 40, 2) := dk_16 (by decide +kernel)
theorem dX8_edges_56 : decode cX8_edges 56 = .ok (.iload_n 1, 1) := dk_27 (by decide +kernel)
theorem dX8_edges_57 : decode cX8_edges 57 = .ok (.imul, 1) := dk_104 (by decide +kernel)
theorem dX8_edges_58 : decode cX8_edges 58 = .ok (.iload_n 2, 1) := dk_28 (by decide +kernel)
theorem dX8_edges_59 : decode cX8_edges 59 = .ok (.iadd, 1) := dk_96 (by decide +kernel)
theorem dX8_edges_60 : decode cX8_edges 60 = .ok (.iaload, 1) := dk_46 (by decide +kernel)
theorem dX8_edges_61 : decode cX8_edges 61 = .ok (.iconst 0, 1) := dk_3 (by decide +kernel)
theorem dX8_edges_62 : decode cX8_edges 62 = .ok (.bipush 99, 2) := dk_16 (by decide +kernel)
theorem dX8_edges_64 : decode cX8_edges 64 = .ok (.invokestatic 47, 3) := dk_184 (by decide +kernel)
theorem dX8_edges_67 : decode cX8_edges 67 = .ok (.ifCond .eq 26, 3) := dk_153 (by decide +kernel)
theorem dX8_edges_70 : decode cX8_edges 70 = .ok (.aload_n 0, 1) := dk_42 (by decide +kernel)
theorem dX8_edges_71 : decode cX8_edges 71 = .ok (.iload_n 2, 1) := dk_28 (by decide +kernel)
theorem dX8_edges_72 : decode cX8_edges 72 = .ok (.iconst 3, 1) := dk_6 (by decide +kernel)
theorem dX8_edges_73 : decode cX8_edges 73 = .ok (.aload_n 0, 1) := dk_42 (by decide +kernel)
theorem dX8_edges_74 : decode cX8_edges 74 = .ok (.getfield 37, 3) := dk_180 (by decide +kernel)
theorem dX8_edges_77 : decode cX8_edges 77 = .ok (.bipush 40, 2) := dk_16 (by decide +kernel)
theorem dX8_edges_79 : decode cX8_edges 79 = .ok (.iload_n 1, 1) := dk_27 (by decide +kernel)
theorem dX8_edges_80 : decode cX8_edges 80 = .ok (.imul, 1) := dk_104 (by decide +kernel)
theorem dX8_edges_81 : decode cX8_edges 81 = .ok (.iload_n 2, 1) := dk_28 (by decide +kernel)
theorem dX8_edges_82 : decode cX8_edges 82 = .ok (.iadd, 1) := dk_96 (by decide +kernel)
theorem dX8_edges_83 : decode cX8_edges 83 = .ok (.iaload, 1) := dk_46 (by decide +kernel)
theorem dX8_edges_84 : decode cX8_edges 84 = .ok (.invokevirtual 69, 3) := dk_182 (by decide +kernel)
theorem dX8_edges_87 : decode cX8_edges 87 = .ok (.iinc 2 1, 3) := dk_132 (by decide +kernel)
theorem dX8_edges_90 : decode cX8_edges 90 = .ok (.goto (-58), 3) := dk_167 (by decide +kernel)
theorem dX8_edges_0 : decode cX8_edges 0 = .ok (.iload_n 1, 1) := dk_27 (by decide +kernel)
theorem dX8_edges_1 : decode cX8_edges 1 = .ok (.invokestatic 205, 3) := dk_184 (by decide +kernel)
theorem dX8_edges_4 : decode cX8_edges 4 = .ok (.ifCond .ne 10, 3) := dk_154 (by decide +kernel)
theorem dX8_edges_14 : decode cX8_edges 14 = .ok (.aload_n 0, 1) := dk_42 (by decide +kernel)
theorem dX8_edges_15 : decode cX8_edges 15 = .ok (.getfield 31, 3) := dk_180 (by decide +kernel)
theorem dX8_edges_18 : decode cX8_edges 18 = .ok (.iload_n 1, 1) := dk_27 (by decide +kernel)
theorem dX8_edges_19 : decode cX8_edges 19 = .ok (.iaload, 1) := dk_46 (by decide +kernel)
theorem dX8_edges_20 : decode cX8_edges 20 = .ok (.ifCond .ne 10, 3) := dk_154 (by decide +kernel)
theorem dX8_edges_30 : decode cX8_edges 30 = .ok (.iconst 0, 1) := dk_3 (by decide +kernel)
theorem dX8_edges_31 : decode cX8_edges 31 = .ok (.istore_n 2, 1) := dk_61 (by decide +kernel)
theorem dX8_edges_23 : decode cX8_edges 23 = .ok (.aload_n 0, 1) := dk_42 (by decide +kernel)
theorem dX8_edges_24 : decode cX8_edges 24 = .ok (.ldc 194, 2) := dk_18 (by decide +kernel)
theorem dX8_edges_26 : decode cX8_edges 26 = .ok (.invokevirtual 61, 3) := dk_182 (by decide +kernel)
theorem dX8_edges_29 : decode cX8_edges 29 = .ok (.ireturn, 1) := dk_172 (by decide +kernel)
theorem dX8_edges_7 : decode cX8_edges 7 = .ok (.aload_n 0, 1) := dk_42 (by decide +kernel)
theorem dX8_edges_8 : decode cX8_edges 8 = .ok (.ldc 60, 2) := dk_18 (by decide +kernel)
theorem dX8_edges_10 : decode cX8_edges 10 = .ok (.invokevirtual 61, 3) := dk_182 (by decide +kernel)
theorem dX8_edges_13 : decode cX8_edges 13 = .ok (.ireturn, 1) := dk_172 (by decide +kernel)
set_option maxRecDepth 100000 in
set_option maxHeartbeats 8000000 in
theorem x_X8_edges (l : Launch) (D : va_G) (y : wY) (ad : Nat → Nat) (i1 : Int32) (M : Mem) (K : Int32 → Mem → Prop) (h : wp_X8_edges i1 M K) : MI l D y ad yX8_edges (Cond.code yX8_edges cX8_edges 3 (some .int)) 2 M [.ref (ad 79), .int i1] K := by
  refine MI_of (by decide) (Nat.le_of_ble_eq_true rfl) ?_
  intro p e s m args below meth c X hr hlocks
  have hL32 : ∀ (i1 : Int32) (n : Nat) (i2 : Int32) (Mb : Mem), wp_X8_edges_L32 K i1 n i2 Mb → J p l e (rmN 2) s m args below meth c 0 0 (QI K D y ad M s args below) D y ad (va_A (PL y ad M) s.heap.size) 3 Mb 32 [(0, .ref (ad 79)), (1, .int i1), (2, .int i2)] [] := by
    intro i1 n
    induction n with
    | zero => intro i2 Mb h; exact False.elim h
    | succ n hB32 =>
      intro i2 Mb h
      replace h : wp_X8_edges_l32 K i1 (wp_X8_edges_L32 K i1 n) i2 Mb := h
      delta wp_X8_edges_l32 at h
      refine j_iload_n X 2 rfl rfl dX8_edges_32 ?_
      refine j_aload_n X 0 rfl rfl dX8_edges_33 ?_
      refine j_get X cl_79.1 (wE_8 _ cl_79.2) rfl awF8 16 (by decide) aw_100 rfl (v := .ref (ad 88)) rfl dX8_edges_34 ?_
      refine j_iload_n X 1 rfl rfl dX8_edges_37 ?_
      obtain ⟨hi_3201, h⟩ := h
      refine j_iald X cl_88.1 cl_88.2 hi_3201 dX8_edges_38 ?_
      refine j_icmp_ge X 93 (by decide) dX8_edges_39 (fun q_3202 => ?_) (fun q_3202 => ?_)
      · replace h := h.1 q_3202
        refine j_iload_n X 2 rfl rfl dX8_edges_93 ?_
        exact j_iret X hr hlocks dX8_edges_94 h
      · replace h := h.2 q_3202
        refine j_aload_n X 0 rfl rfl dX8_edges_42 ?_
        refine j_iload_n X 2 rfl rfl dX8_edges_43 ?_
        refine j_callVI X (nn := 1) (As := [.int i2]) (st := []) (ci := 8) cl_79.1 (wE_8 _ cl_79.2) rfl aw_231 aw_232 (x_X8_isQuarrel l D y ad i2 _ _ h) aw_230 aw_233 aw_5 (by decide +kernel) ⟨Nat.le_of_ble_eq_true rfl, Nat.le_of_ble_eq_true rfl⟩ rfl (Nat.le_of_ble_eq_true rfl) ⟨Nat.le_of_ble_eq_true rfl, Nat.le_of_ble_eq_true rfl⟩ dX8_edges_44 ?_
        intro r3203 M3203 h
        refine j_if_eq X 93 (by decide) dX8_edges_47 (fun q_3204 => ?_) (fun q_3204 => ?_)
        · replace h := h.1 q_3204
          refine j_iload_n X 2 rfl rfl dX8_edges_93 ?_
          exact j_iret X hr hlocks dX8_edges_94 h
        · replace h := h.2 q_3204
          refine j_aload_n X 0 rfl rfl dX8_edges_50 ?_
          refine j_get X cl_79.1 (wE_8 _ cl_79.2) rfl awF8 17 (by decide) aw_101 rfl (v := .ref (ad 89)) rfl dX8_edges_51 ?_
          refine j_bipush X (v := 40) (by decide) dX8_edges_54 ?_
          refine j_iload_n X 1 rfl rfl dX8_edges_56 ?_
          refine j_imul X dX8_edges_57 ?_
          refine j_iload_n X 2 rfl rfl dX8_edges_58 ?_
          refine j_iadd X dX8_edges_59 ?_
          obtain ⟨hi_3205, h⟩ := h
          refine j_iald X cl_89.1 cl_89.2 hi_3205 dX8_edges_60 ?_
          refine j_iconst X (v := 0) (by decide) dX8_edges_61 ?_
          refine j_bipush X (v := 99) (by decide) dX8_edges_62 ?_
          refine j_callSI X (nn := 3) (As := [.int (M3203 89 ((40 * i1) + i2).toNatClampNeg), .int 0, .int 99]) (st := []) aw_134 (x_X8_in l D y ad (M3203 89 ((40 * i1) + i2).toNatClampNeg) 0 99 _ _ h) aw_133 aw_135 aw_5 (by decide +kernel) ⟨Nat.le_of_ble_eq_true rfl, Nat.le_of_ble_eq_true rfl⟩ rfl (Nat.le_of_ble_eq_true rfl) ⟨Nat.le_of_ble_eq_true rfl, Nat.le_of_ble_eq_true rfl⟩ dX8_edges_64 ?_
          intro r3206 M3206 h
          refine j_if_eq X 93 (by decide) dX8_edges_67 (fun q_3207 => ?_) (fun q_3207 => ?_)
          · replace h := h.1 q_3207
            refine j_iload_n X 2 rfl rfl dX8_edges_93 ?_
            exact j_iret X hr hlocks dX8_edges_94 h
          · replace h := h.2 q_3207
            refine j_aload_n X 0 rfl rfl dX8_edges_70 ?_
            refine j_iload_n X 2 rfl rfl dX8_edges_71 ?_
            refine j_iconst X (v := 3) (by decide) dX8_edges_72 ?_
            refine j_aload_n X 0 rfl rfl dX8_edges_73 ?_
            refine j_get X cl_79.1 (wE_8 _ cl_79.2) rfl awF8 17 (by decide) aw_101 rfl (v := .ref (ad 89)) rfl dX8_edges_74 ?_
            refine j_bipush X (v := 40) (by decide) dX8_edges_77 ?_
            refine j_iload_n X 1 rfl rfl dX8_edges_79 ?_
            refine j_imul X dX8_edges_80 ?_
            refine j_iload_n X 2 rfl rfl dX8_edges_81 ?_
            refine j_iadd X dX8_edges_82 ?_
            obtain ⟨hi_3208, h⟩ := h
            refine j_iald X cl_89.1 cl_89.2 hi_3208 dX8_edges_83 ?_
            refine j_callVV X (nn := 3) (As := [.int i2, .int 3, .int (M3206 89 ((40 * i1) + i2).toNatClampNeg)]) (st := []) (ci := 8) cl_79.1 (wE_8 _ cl_79.2) rfl aw_183 aw_184 (x_X8_gets l D y ad i2 3 (M3206 89 ((40 * i1) + i2).toNatClampNeg) _ _ h) aw_182 aw_185 aw_5 (by decide +kernel) ⟨Nat.le_of_ble_eq_true rfl, Nat.le_of_ble_eq_true rfl⟩ rfl (Nat.le_of_ble_eq_true rfl) ⟨Nat.le_of_ble_eq_true rfl, Nat.le_of_ble_eq_true rfl⟩ dX8_edges_84 ?_
            intro M3209 h
            refine j_iinc X (v := (i2 + 1)) 2 [(2, .int (i2 + 1)), (0, .ref (ad 79)), (1, .int i1)] rfl rfl (by decide) rfl dX8_edges_87 ?_
            refine j_goto X 32 (by decide) dX8_edges_90 ?_
            refine j_lv (lv1 := [(0, .ref (ad 79)), (1, .int i1), (2, .int (i2 + 1))]) [1, 2, 0] rfl ?_
            exact hB32 _ _ h
  delta wp_X8_edges at h
  refine j_lv (lv1 := [(0, .ref (ad 79)), (1, .int i1)]) [0, 1] rfl ?_
  refine j_iload_n X 1 rfl rfl dX8_edges_0 ?_
  refine j_callSI X (nn := 1) (As := [.int i1]) (st := []) aw_653 (x_X8_isSheet l D y ad i1 _ _ h) aw_652 aw_654 aw_5 (by decide +kernel) ⟨Nat.le_of_ble_eq_true rfl, Nat.le_of_ble_eq_true rfl⟩ rfl (Nat.le_of_ble_eq_true rfl) ⟨Nat.le_of_ble_eq_true rfl, Nat.le_of_ble_eq_true rfl⟩ dX8_edges_1 ?_
  intro r1 M1 h
  refine j_if_ne X 14 (by decide) dX8_edges_4 (fun q_2 => ?_) (fun q_2 => ?_)
  · replace h := h.1 q_2
    refine j_aload_n X 0 rfl rfl dX8_edges_14 ?_
    refine j_get X cl_79.1 (wE_8 _ cl_79.2) rfl awF8 15 (by decide) aw_99 rfl (v := .ref (ad 87)) rfl dX8_edges_15 ?_
    refine j_iload_n X 1 rfl rfl dX8_edges_18 ?_
    obtain ⟨hi_3, h⟩ := h
    refine j_iald X cl_87.1 cl_87.2 hi_3 dX8_edges_19 ?_
    refine j_if_ne X 30 (by decide) dX8_edges_20 (fun q_4 => ?_) (fun q_4 => ?_)
    · replace h := h.1 q_4
      refine j_iconst X (v := 0) (by decide) dX8_edges_30 ?_
      refine j_istore_n X [(2, .int 0), (0, .ref (ad 79)), (1, .int i1)] rfl (by decide) rfl dX8_edges_31 ?_
      refine j_lv (lv1 := [(0, .ref (ad 79)), (1, .int i1), (2, .int 0)]) [1, 2, 0] rfl ?_
      obtain ⟨n32, h⟩ := h
      exact hL32 _   n32 _ _ h
    · replace h := h.2 q_4
      refine j_aload_n X 0 rfl rfl dX8_edges_23 ?_
      refine j_ldc X (v := (-1000000002)) aw_565 dX8_edges_24 ?_
      refine j_callVI X (nn := 1) (As := [.int (-1000000002)]) (st := []) (ci := 8) cl_79.1 (wE_8 _ cl_79.2) rfl aw_144 aw_145 (x_X8_errs l D y ad (-1000000002) _ _ h) aw_143 aw_146 aw_5 (by decide +kernel) ⟨Nat.le_of_ble_eq_true rfl, Nat.le_of_ble_eq_true rfl⟩ rfl (Nat.le_of_ble_eq_true rfl) ⟨Nat.le_of_ble_eq_true rfl, Nat.le_of_ble_eq_true rfl⟩ dX8_edges_26 ?_
      intro r5 M5 h
      exact j_iret X hr hlocks dX8_edges_29 h
  · replace h := h.2 q_2
    refine j_aload_n X 0 rfl rfl dX8_edges_7 ?_
    refine j_ldc X (v := (-1000000001)) aw_132 dX8_edges_8 ?_
    refine j_callVI X (nn := 1) (As := [.int (-1000000001)]) (st := []) (ci := 8) cl_79.1 (wE_8 _ cl_79.2) rfl aw_144 aw_145 (x_X8_errs l D y ad (-1000000001) _ _ h) aw_143 aw_146 aw_5 (by decide +kernel) ⟨Nat.le_of_ble_eq_true rfl, Nat.le_of_ble_eq_true rfl⟩ rfl (Nat.le_of_ble_eq_true rfl) ⟨Nat.le_of_ble_eq_true rfl, Nat.le_of_ble_eq_true rfl⟩ dX8_edges_10 ?_
    intro r6 M6 h
    exact j_iret X hr hlocks dX8_edges_13 h
theorem dX8_judge_32 : decode cX8_judge 32 = .ok (.iload_n 2, 1) := dk_28 (by decide +kernel)
theorem dX8_judge_33 : decode cX8_judge 33 = .ok (.aload_n 0, 1) := dk_42 (by decide +kernel)
theorem dX8_judge_34 : decode cX8_judge 34 = .ok (.getfield 7, 3) := dk_180 (by decide +kernel)
theorem dX8_judge_37 : decode cX8_judge 37 = .ok (.iconst 2, 1) := dk_5 (by decide +kernel)
theorem dX8_judge_38 : decode cX8_judge 38 = .ok (.iaload, 1) := dk_46 (by decide +kernel)
theorem dX8_judge_39 : decode cX8_judge 39 = .ok (.if_icmp .ge 40, 3) := dk_162 (by decide +kernel)
theorem dX8_judge_79 : decode cX8_judge 79 = .ok (.iload_n 2, 1) := dk_28 (by decide +kernel)
theorem dX8_judge_80 : decode cX8_judge 80 = .ok (.aload_n 0, 1) := dk_42 (by decide +kernel)
theorem dX8_judge_81 : decode cX8_judge 81 = .ok (.getfield 7, 3) := dk_180 (by decide +kernel)
theorem dX8_judge_84 : decode cX8_judge 84 = .ok (.iconst 2, 1) := dk_5 (by decide +kernel)
theorem dX8_judge_85 : decode cX8_judge 85 = .ok (.iaload, 1) := dk_46 (by decide +kernel)
theorem dX8_judge_86 : decode cX8_judge 86 = .ok (.if_icmp .ne 17, 3) := dk_160 (by decide +kernel)
theorem dX8_judge_103 : decode cX8_judge 103 = .ok (.iload_n 2, 1) := dk_28 (by decide +kernel)
theorem dX8_judge_104 : decode cX8_judge 104 = .ok (.ireturn, 1) := dk_172 (by decide +kernel)
theorem dX8_judge_89 : decode cX8_judge 89 = .ok (.iload_n 2, 1) := dk_28 (by decide +kernel)
theorem dX8_judge_90 : decode cX8_judge 90 = .ok (.aload_n 0, 1) := dk_42 (by decide +kernel)
theorem dX8_judge_91 : decode cX8_judge 91 = .ok (.getfield 34, 3) := dk_180 (by decide +kernel)
theorem dX8_judge_94 : decode cX8_judge 94 = .ok (.iload_n 1, 1) := dk_27 (by decide +kernel)
theorem dX8_judge_95 : decode cX8_judge 95 = .ok (.iaload, 1) := dk_46 (by decide +kernel)
theorem dX8_judge_96 : decode cX8_judge 96 = .ok (.if_icmp .ne 7, 3) := dk_160 (by decide +kernel)
theorem dX8_judge_99 : decode cX8_judge 99 = .ok (.iconst (-1), 1) := dk_2 (by decide +kernel)
theorem dX8_judge_100 : decode cX8_judge 100 = .ok (.goto 4, 3) := dk_167 (by decide +kernel)
theorem dX8_judge_42 : decode cX8_judge 42 = .ok (.iload_n 2, 1) := dk_28 (by decide +kernel)
theorem dX8_judge_43 : decode cX8_judge 43 = .ok (.aload_n 0, 1) := dk_42 (by decide +kernel)
theorem dX8_judge_44 : decode cX8_judge 44 = .ok (.getfield 34, 3) := dk_180 (by decide +kernel)
theorem dX8_judge_47 : decode cX8_judge 47 = .ok (.iload_n 1, 1) := dk_27 (by decide +kernel)
theorem dX8_judge_48 : decode cX8_judge 48 = .ok (.iaload, 1) := dk_46 (by decide +kernel)
theorem dX8_judge_49 : decode cX8_judge 49 = .ok (.if_icmp .ge 30, 3) := dk_162 (by decide +kernel)
theorem dX8_judge_52 : decode cX8_judge 52 = .ok (.aload_n 0, 1) := dk_42 (by decide +kernel)
theorem dX8_judge_53 : decode cX8_judge 53 = .ok (.getfield 37, 3) := dk_180 (by decide +kernel)
theorem dX8_judge_56 : decode cX8_judge 56 = .ok (.bipush 40, 2) := dk_16 (by decide +kernel)
theorem dX8_judge_58 : decode cX8_judge 58 = .ok (.iload_n 1, 1) := dk_27 (by decide +kernel)
theorem dX8_judge_59 : decode cX8_judge 59 = .ok (.imul, 1) := dk_104 (by decide +kernel)
theorem dX8_judge_60 : decode cX8_judge 60 = .ok (.iload_n 2, 1) := dk_28 (by decide +kernel)
theorem dX8_judge_61 : decode cX8_judge 61 = .ok (.iadd, 1) := dk_96 (by decide +kernel)
theorem dX8_judge_62 : decode cX8_judge 62 = .ok (.iaload, 1) := dk_46 (by decide +kernel)
theorem dX8_judge_63 : decode cX8_judge 63 = .ok (.aload_n 0, 1) := dk_42 (by decide +kernel)
theorem dX8_judge_64 : decode cX8_judge 64 = .ok (.iload_n 2, 1) := dk_28 (by decide +kernel)
theorem dX8_judge_65 : decode cX8_judge 65 = .ok (.bipush 6, 2) := dk_16 (by decide +kernel)
theorem dX8_judge_67 : decode cX8_judge 67 = .ok (.invokevirtual 65, 3) := dk_182 (by decide +kernel)
theorem dX8_judge_70 : decode cX8_judge 70 = .ok (.if_icmp .ne 9, 3) := dk_160 (by decide +kernel)
theorem dX8_judge_73 : decode cX8_judge 73 = .ok (.iinc 2 1, 3) := dk_132 (by decide +kernel)
theorem dX8_judge_76 : decode cX8_judge 76 = .ok (.goto (-44), 3) := dk_167 (by decide +kernel)
theorem dX8_judge_0 : decode cX8_judge 0 = .ok (.iload_n 1, 1) := dk_27 (by decide +kernel)
theorem dX8_judge_1 : decode cX8_judge 1 = .ok (.invokestatic 205, 3) := dk_184 (by decide +kernel)
theorem dX8_judge_4 : decode cX8_judge 4 = .ok (.ifCond .ne 10, 3) := dk_154 (by decide +kernel)
theorem dX8_judge_14 : decode cX8_judge 14 = .ok (.aload_n 0, 1) := dk_42 (by decide +kernel)
theorem dX8_judge_15 : decode cX8_judge 15 = .ok (.getfield 31, 3) := dk_180 (by decide +kernel)
theorem dX8_judge_18 : decode cX8_judge 18 = .ok (.iload_n 1, 1) := dk_27 (by decide +kernel)
theorem dX8_judge_19 : decode cX8_judge 19 = .ok (.iaload, 1) := dk_46 (by decide +kernel)
theorem dX8_judge_20 : decode cX8_judge 20 = .ok (.ifCond .ne 10, 3) := dk_154 (by decide +kernel)
theorem dX8_judge_30 : decode cX8_judge 30 = .ok (.iconst 0, 1) := dk_3 (by decide +kernel)
theorem dX8_judge_31 : decode cX8_judge 31 = .ok (.istore_n 2, 1) := dk_61 (by decide +kernel)
theorem dX8_judge_23 : decode cX8_judge 23 = .ok (.aload_n 0, 1) := dk_42 (by decide +kernel)
theorem dX8_judge_24 : decode cX8_judge 24 = .ok (.ldc 194, 2) := dk_18 (by decide +kernel)
theorem dX8_judge_26 : decode cX8_judge 26 = .ok (.invokevirtual 61, 3) := dk_182 (by decide +kernel)
theorem dX8_judge_29 : decode cX8_judge 29 = .ok (.ireturn, 1) := dk_172 (by decide +kernel)
theorem dX8_judge_7 : decode cX8_judge 7 = .ok (.aload_n 0, 1) := dk_42 (by decide +kernel)
theorem dX8_judge_8 : decode cX8_judge 8 = .ok (.ldc 60, 2) := dk_18 (by decide +kernel)
theorem dX8_judge_10 : decode cX8_judge 10 = .ok (.invokevirtual 61, 3) := dk_182 (by decide +kernel)
theorem dX8_judge_13 : decode cX8_judge 13 = .ok (.ireturn, 1) := dk_172 (by decide +kernel)
set_option maxRecDepth 100000 in
set_option maxHeartbeats 8000000 in
theorem x_X8_judge (l : Launch) (D : va_G) (y : wY) (ad : Nat → Nat) (i1 : Int32) (M : Mem) (K : Int32 → Mem → Prop) (h : wp_X8_judge i1 M K) : MI l D y ad yX8_judge (Cond.code yX8_judge cX8_judge 3 (some .int)) 2 M [.ref (ad 79), .int i1] K := by
  refine MI_of (by decide) (Nat.le_of_ble_eq_true rfl) ?_
  intro p e s m args below meth c X hr hlocks
  have hL32 : ∀ (i1 : Int32) (n : Nat) (i2 : Int32) (Mb : Mem), wp_X8_judge_L32 K i1 n i2 Mb → J p l e (rmN 2) s m args below meth c 0 0 (QI K D y ad M s args below) D y ad (va_A (PL y ad M) s.heap.size) 3 Mb 32 [(0, .ref (ad 79)), (1, .int i1), (2, .int i2)] [] := by
    intro i1 n
    induction n with
    | zero => intro i2 Mb h; exact False.elim h
    | succ n hB32 =>
      intro i2 Mb h
      replace h : wp_X8_judge_l32 K i1 (wp_X8_judge_L32 K i1 n) i2 Mb := h
      delta wp_X8_judge_l32 at h
      refine j_iload_n X 2 rfl rfl dX8_judge_32 ?_
      refine j_aload_n X 0 rfl rfl dX8_judge_33 ?_
      refine j_get X cl_79.1 (wE_8 _ cl_79.2) rfl awF8 0 (by decide) aw_92 rfl (v := .ref (ad 80)) rfl dX8_judge_34 ?_
      refine j_iconst X (v := 2) (by decide) dX8_judge_37 ?_
      refine j_iald X cl_80.1 cl_80.2 (by unfold vp_in; decide) dX8_judge_38 ?_
      refine j_eqi (v := Mb 80 2) rfl ?_
      refine j_icmp_ge X 79 (by decide) dX8_judge_39 (fun q_3201 => ?_) (fun q_3201 => ?_)
      · replace h := h.1 q_3201
        refine j_iload_n X 2 rfl rfl dX8_judge_79 ?_
        refine j_aload_n X 0 rfl rfl dX8_judge_80 ?_
        refine j_get X cl_79.1 (wE_8 _ cl_79.2) rfl awF8 0 (by decide) aw_92 rfl (v := .ref (ad 80)) rfl dX8_judge_81 ?_
        refine j_iconst X (v := 2) (by decide) dX8_judge_84 ?_
        refine j_iald X cl_80.1 cl_80.2 (by unfold vp_in; decide) dX8_judge_85 ?_
        refine j_eqi (v := Mb 80 2) rfl ?_
        refine j_icmp_ne X 103 (by decide) dX8_judge_86 (fun q_3202 => ?_) (fun q_3202 => ?_)
        · replace h := h.1 q_3202
          refine j_iload_n X 2 rfl rfl dX8_judge_103 ?_
          exact j_iret X hr hlocks dX8_judge_104 h
        · replace h := h.2 q_3202
          refine j_iload_n X 2 rfl rfl dX8_judge_89 ?_
          refine j_aload_n X 0 rfl rfl dX8_judge_90 ?_
          refine j_get X cl_79.1 (wE_8 _ cl_79.2) rfl awF8 16 (by decide) aw_100 rfl (v := .ref (ad 88)) rfl dX8_judge_91 ?_
          refine j_iload_n X 1 rfl rfl dX8_judge_94 ?_
          obtain ⟨hi_3203, h⟩ := h
          refine j_iald X cl_88.1 cl_88.2 hi_3203 dX8_judge_95 ?_
          refine j_icmp_ne X 103 (by decide) dX8_judge_96 (fun q_3204 => ?_) (fun q_3204 => ?_)
          · replace h := h.1 q_3204
            refine j_iload_n X 2 rfl rfl dX8_judge_103 ?_
            exact j_iret X hr hlocks dX8_judge_104 h
          · replace h := h.2 q_3204
            refine j_iconst X (v := (-1)) (by decide) dX8_judge_99 ?_
            refine j_goto X 104 (by decide) dX8_judge_100 ?_
            exact j_iret X hr hlocks dX8_judge_104 h
      · replace h := h.2 q_3201
        refine j_iload_n X 2 rfl rfl dX8_judge_42 ?_
        refine j_aload_n X 0 rfl rfl dX8_judge_43 ?_
        refine j_get X cl_79.1 (wE_8 _ cl_79.2) rfl awF8 16 (by decide) aw_100 rfl (v := .ref (ad 88)) rfl dX8_judge_44 ?_
        refine j_iload_n X 1 rfl rfl dX8_judge_47 ?_
        obtain ⟨hi_3205, h⟩ := h
        refine j_iald X cl_88.1 cl_88.2 hi_3205 dX8_judge_48 ?_
        refine j_icmp_ge X 79 (by decide) dX8_judge_49 (fun q_3206 => ?_) (fun q_3206 => ?_)
        · replace h := h.1 q_3206
          refine j_iload_n X 2 rfl rfl dX8_judge_79 ?_
          refine j_aload_n X 0 rfl rfl dX8_judge_80 ?_
          refine j_get X cl_79.1 (wE_8 _ cl_79.2) rfl awF8 0 (by decide) aw_92 rfl (v := .ref (ad 80)) rfl dX8_judge_81 ?_
          refine j_iconst X (v := 2) (by decide) dX8_judge_84 ?_
          refine j_iald X cl_80.1 cl_80.2 (by unfold vp_in; decide) dX8_judge_85 ?_
          refine j_eqi (v := Mb 80 2) rfl ?_
          refine j_icmp_ne X 103 (by decide) dX8_judge_86 (fun q_3207 => ?_) (fun q_3207 => ?_)
          · replace h := h.1 q_3207
            refine j_iload_n X 2 rfl rfl dX8_judge_103 ?_
            exact j_iret X hr hlocks dX8_judge_104 h
          · replace h := h.2 q_3207
            refine j_iload_n X 2 rfl rfl dX8_judge_89 ?_
            refine j_aload_n X 0 rfl rfl dX8_judge_90 ?_
            refine j_get X cl_79.1 (wE_8 _ cl_79.2) rfl awF8 16 (by decide) aw_100 rfl (v := .ref (ad 88)) rfl dX8_judge_91 ?_
            refine j_iload_n X 1 rfl rfl dX8_judge_94 ?_
            obtain ⟨hi_3208, h⟩ := h
            refine j_iald X cl_88.1 cl_88.2 hi_3208 dX8_judge_95 ?_
            refine j_icmp_ne X 103 (by decide) dX8_judge_96 (fun q_3209 => ?_) (fun q_3209 => ?_)
            · replace h := h.1 q_3209
              refine j_iload_n X 2 rfl rfl dX8_judge_103 ?_
              exact j_iret X hr hlocks dX8_judge_104 h
            · replace h := h.2 q_3209
              refine j_iconst X (v := (-1)) (by decide) dX8_judge_99 ?_
              refine j_goto X 104 (by decide) dX8_judge_100 ?_
              exact j_iret X hr hlocks dX8_judge_104 h
        · replace h := h.2 q_3206
          refine j_aload_n X 0 rfl rfl dX8_judge_52 ?_
          refine j_get X cl_79.1 (wE_8 _ cl_79.2) rfl awF8 17 (by decide) aw_101 rfl (v := .ref (ad 89)) rfl dX8_judge_53 ?_
          refine j_bipush X (v := 40) (by decide) dX8_judge_56 ?_
          refine j_iload_n X 1 rfl rfl dX8_judge_58 ?_
          refine j_imul X dX8_judge_59 ?_
          refine j_iload_n X 2 rfl rfl dX8_judge_60 ?_
          refine j_iadd X dX8_judge_61 ?_
          obtain ⟨hi_3210, h⟩ := h
          refine j_iald X cl_89.1 cl_89.2 hi_3210 dX8_judge_62 ?_
          refine j_aload_n X 0 rfl rfl dX8_judge_63 ?_
          refine j_iload_n X 2 rfl rfl dX8_judge_64 ?_
          refine j_bipush X (v := 6) (by decide) dX8_judge_65 ?_
          refine j_callVI X (nn := 2) (As := [.int i2, .int 6]) (st := [.int (Mb 89 ((40 * i1) + i2).toNatClampNeg)]) (ci := 8) cl_79.1 (wE_8 _ cl_79.2) rfl aw_161 aw_162 (x_X8_its l D y ad i2 6 _ _ h) aw_160 aw_163 aw_5 (by decide +kernel) ⟨Nat.le_of_ble_eq_true rfl, Nat.le_of_ble_eq_true rfl⟩ rfl (Nat.le_of_ble_eq_true rfl) ⟨Nat.le_of_ble_eq_true rfl, Nat.le_of_ble_eq_true rfl⟩ dX8_judge_67 ?_
          intro r3211 M3211 h
          refine j_icmp_ne X 79 (by decide) dX8_judge_70 (fun q_3212 => ?_) (fun q_3212 => ?_)
          · replace h := h.1 q_3212
            refine j_iload_n X 2 rfl rfl dX8_judge_79 ?_
            refine j_aload_n X 0 rfl rfl dX8_judge_80 ?_
            refine j_get X cl_79.1 (wE_8 _ cl_79.2) rfl awF8 0 (by decide) aw_92 rfl (v := .ref (ad 80)) rfl dX8_judge_81 ?_
            refine j_iconst X (v := 2) (by decide) dX8_judge_84 ?_
            refine j_iald X cl_80.1 cl_80.2 (by unfold vp_in; decide) dX8_judge_85 ?_
            refine j_eqi (v := M3211 80 2) rfl ?_
            refine j_icmp_ne X 103 (by decide) dX8_judge_86 (fun q_3213 => ?_) (fun q_3213 => ?_)
            · replace h := h.1 q_3213
              refine j_iload_n X 2 rfl rfl dX8_judge_103 ?_
              exact j_iret X hr hlocks dX8_judge_104 h
            · replace h := h.2 q_3213
              refine j_iload_n X 2 rfl rfl dX8_judge_89 ?_
              refine j_aload_n X 0 rfl rfl dX8_judge_90 ?_
              refine j_get X cl_79.1 (wE_8 _ cl_79.2) rfl awF8 16 (by decide) aw_100 rfl (v := .ref (ad 88)) rfl dX8_judge_91 ?_
              refine j_iload_n X 1 rfl rfl dX8_judge_94 ?_
              obtain ⟨hi_3214, h⟩ := h
              refine j_iald X cl_88.1 cl_88.2 hi_3214 dX8_judge_95 ?_
              refine j_icmp_ne X 103 (by decide) dX8_judge_96 (fun q_3215 => ?_) (fun q_3215 => ?_)
              · replace h := h.1 q_3215
                refine j_iload_n X 2 rfl rfl dX8_judge_103 ?_
                exact j_iret X hr hlocks dX8_judge_104 h
              · replace h := h.2 q_3215
                refine j_iconst X (v := (-1)) (by decide) dX8_judge_99 ?_
                refine j_goto X 104 (by decide) dX8_judge_100 ?_
                exact j_iret X hr hlocks dX8_judge_104 h
          · replace h := h.2 q_3212
            refine j_iinc X (v := (i2 + 1)) 2 [(2, .int (i2 + 1)), (0, .ref (ad 79)), (1, .int i1)] rfl rfl (by decide) rfl dX8_judge_73 ?_
            refine j_goto X 32 (by decide) dX8_judge_76 ?_
            refine j_lv (lv1 := [(0, .ref (ad 79)), (1, .int i1), (2, .int (i2 + 1))]) [1, 2, 0] rfl ?_
            exact hB32 _ _ h
  delta wp_X8_judge at h
  refine j_lv (lv1 := [(0, .ref (ad 79)), (1, .int i1)]) [0, 1] rfl ?_
  refine j_iload_n X 1 rfl rfl dX8_judge_0 ?_
  refine j_callSI X (nn := 1) (As := [.int i1]) (st := []) aw_653 (x_X8_isSheet l D y ad i1 _ _ h) aw_652 aw_654 aw_5 (by decide +kernel) ⟨Nat.le_of_ble_eq_true rfl, Nat.le_of_ble_eq_true rfl⟩ rfl (Nat.le_of_ble_eq_true rfl) ⟨Nat.le_of_ble_eq_true rfl, Nat.le_of_ble_eq_true rfl⟩ dX8_judge_1 ?_
  intro r1 M1 h
  refine j_if_ne X 14 (by decide) dX8_judge_4 (fun q_2 => ?_) (fun q_2 => ?_)
  · replace h := h.1 q_2
    refine j_aload_n X 0 rfl rfl dX8_judge_14 ?_
    refine j_get X cl_79.1 (wE_8 _ cl_79.2) rfl awF8 15 (by decide) aw_99 rfl (v := .ref (ad 87)) rfl dX8_judge_15 ?_
    refine j_iload_n X 1 rfl rfl dX8_judge_18 ?_
    obtain ⟨hi_3, h⟩ := h
    refine j_iald X cl_87.1 cl_87.2 hi_3 dX8_judge_19 ?_
    refine j_if_ne X 30 (by decide) dX8_judge_20 (fun q_4 => ?_) (fun q_4 => ?_)
    · replace h := h.1 q_4
      refine j_iconst X (v := 0) (by decide) dX8_judge_30 ?_
      refine j_istore_n X [(2, .int 0), (0, .ref (ad 79)), (1, .int i1)] rfl (by decide) rfl dX8_judge_31 ?_
      refine j_lv (lv1 := [(0, .ref (ad 79)), (1, .int i1), (2, .int 0)]) [1, 2, 0] rfl ?_
      obtain ⟨n32, h⟩ := h
      exact hL32 _   n32 _ _ h
    · replace h := h.2 q_4
      refine j_aload_n X 0 rfl rfl dX8_judge_23 ?_
      refine j_ldc X (v := (-1000000002)) aw_565 dX8_judge_24 ?_
      refine j_callVI X (nn := 1) (As := [.int (-1000000002)]) (st := []) (ci := 8) cl_79.1 (wE_8 _ cl_79.2) rfl aw_144 aw_145 (x_X8_errs l D y ad (-1000000002) _ _ h) aw_143 aw_146 aw_5 (by decide +kernel) ⟨Nat.le_of_ble_eq_true rfl, Nat.le_of_ble_eq_true rfl⟩ rfl (Nat.le_of_ble_eq_true rfl) ⟨Nat.le_of_ble_eq_true rfl, Nat.le_of_ble_eq_true rfl⟩ dX8_judge_26 ?_
      intro r5 M5 h
      exact j_iret X hr hlocks dX8_judge_29 h
  · replace h := h.2 q_2
    refine j_aload_n X 0 rfl rfl dX8_judge_7 ?_
    refine j_ldc X (v := (-1000000001)) aw_132 dX8_judge_8 ?_
    refine j_callVI X (nn := 1) (As := [.int (-1000000001)]) (st := []) (ci := 8) cl_79.1 (wE_8 _ cl_79.2) rfl aw_144 aw_145 (x_X8_errs l D y ad (-1000000001) _ _ h) aw_143 aw_146 aw_5 (by decide +kernel) ⟨Nat.le_of_ble_eq_true rfl, Nat.le_of_ble_eq_true rfl⟩ rfl (Nat.le_of_ble_eq_true rfl) ⟨Nat.le_of_ble_eq_true rfl, Nat.le_of_ble_eq_true rfl⟩ dX8_judge_10 ?_
    intro r6 M6 h
    exact j_iret X hr hlocks dX8_judge_13 h
theorem dX8_image_0 : decode cX8_image 0 = .ok (.aload_n 0, 1) := dk_42 (by decide +kernel)
theorem dX8_image_1 : decode cX8_image 1 = .ok (.aload_n 0, 1) := dk_42 (by decide +kernel)
theorem dX8_image_2 : decode cX8_image 2 = .ok (.getfield 7, 3) := dk_180 (by decide +kernel)
theorem dX8_image_5 : decode cX8_image 5 = .ok (.aload_n 0, 1) := dk_42 (by decide +kernel)
theorem dX8_image_6 : decode cX8_image 6 = .ok (.getfield 13, 3) := dk_180 (by decide +kernel)
theorem dX8_image_9 : decode cX8_image 9 = .ok (.invokevirtual 175, 3) := dk_182 (by decide +kernel)
theorem dX8_image_12 : decode cX8_image 12 = .ok (.aload_n 0, 1) := dk_42 (by decide +kernel)
theorem dX8_image_13 : decode cX8_image 13 = .ok (.iconst 1, 1) := dk_4 (by decide +kernel)
theorem dX8_image_14 : decode cX8_image 14 = .ok (.putfield 244, 3) := dk_181 (by decide +kernel)
theorem dX8_image_17 : decode cX8_image 17 = .ok (.aload_n 0, 1) := dk_42 (by decide +kernel)
theorem dX8_image_18 : decode cX8_image 18 = .ok (.dup, 1) := dk_89 (by decide +kernel)
theorem dX8_image_19 : decode cX8_image 19 = .ok (.getfield 247, 3) := dk_180 (by decide +kernel)
theorem dX8_image_22 : decode cX8_image 22 = .ok (.iconst 1, 1) := dk_4 (by decide +kernel)
theorem dX8_image_23 : decode cX8_image 23 = .ok (.iadd, 1) := dk_96 (by decide +kernel)
theorem dX8_image_24 : decode cX8_image 24 = .ok (.putfield 247, 3) := dk_181 (by decide +kernel)
theorem dX8_image_27 : decode cX8_image 27 = .ok (.aload_n 0, 1) := dk_42 (by decide +kernel)
theorem dX8_image_28 : decode cX8_image 28 = .ok (.getfield 247, 3) := dk_180 (by decide +kernel)
theorem dX8_image_31 : decode cX8_image 31 = .ok (.ireturn, 1) := dk_172 (by decide +kernel)
set_option maxRecDepth 100000 in
set_option maxHeartbeats 8000000 in
theorem x_X8_image (l : Launch) (D : va_G) (y : wY) (ad : Nat → Nat) (M : Mem) (K : Int32 → Mem → Prop) (h : wp_X8_image M K) : MI l D y ad yX8_image (Cond.code yX8_image cX8_image 1 (some .int)) 1 M [.ref (ad 79)] K := by
  refine MI_of (by decide) (Nat.le_of_ble_eq_true rfl) ?_
  intro p e s m args below meth c X hr hlocks
  delta wp_X8_image at h
  refine j_lv (lv1 := [(0, .ref (ad 79))]) [0] rfl ?_
  refine j_aload_n X 0 rfl rfl dX8_image_0 ?_
  refine j_aload_n X 0 rfl rfl dX8_image_1 ?_
  refine j_get X cl_79.1 (wE_8 _ cl_79.2) rfl awF8 0 (by decide) aw_92 rfl (v := .ref (ad 80)) rfl dX8_image_2 ?_
  refine j_aload_n X 0 rfl rfl dX8_image_5 ?_
  refine j_get X cl_79.1 (wE_8 _ cl_79.2) rfl awF8 1 (by decide) aw_93 rfl (v := .ref (ad 81)) rfl dX8_image_6 ?_
  refine j_callVV X (nn := 2) (As := [.ref (ad 80), .ref (ad 81)]) (st := []) (ci := 8) cl_79.1 (wE_8 _ cl_79.2) rfl aw_553 aw_554 (x_X8_moveAll l D y ad 80 81 cl_80 cl_81 _ _ h) aw_552 aw_555 aw_5 (by decide +kernel) ⟨Nat.le_of_ble_eq_true rfl, Nat.le_of_ble_eq_true rfl⟩ rfl (Nat.le_of_ble_eq_true rfl) ⟨Nat.le_of_ble_eq_true rfl, Nat.le_of_ble_eq_true rfl⟩ dX8_image_9 ?_
  intro M1 h
  refine j_aload_n X 0 rfl rfl dX8_image_12 ?_
  refine j_iconst X (v := 1) (by decide) dX8_image_13 ?_
  refine j_put X (up M1 79 3 1) up_o cl_79.1 (wE_8 _ cl_79.2) rfl awF8 3 (by decide) (wP_8_3 _ _ cl_79.2) tyX8 tyX8_ok nmX8 rfl (ty := .boolean) (by decide +kernel) rfl rfl (Nat.le_of_ble_eq_true rfl) aw_878 rfl dX8_image_14 ?_
  refine j_aload_n X 0 rfl rfl dX8_image_17 ?_
  refine j_dup X rfl dX8_image_18 ?_
  refine j_get X cl_79.1 (wE_8 _ cl_79.2) rfl awF8 4 (by decide) aw_879 rfl (v := .int ((up M1 79 3 1) 79 4)) rfl dX8_image_19 ?_
  refine j_iconst X (v := 1) (by decide) dX8_image_22 ?_
  refine j_iadd X dX8_image_23 ?_
  refine j_put X (up (up M1 79 3 1) 79 4 (((up M1 79 3 1) 79 4) + 1)) up_o cl_79.1 (wE_8 _ cl_79.2) rfl awF8 4 (by decide) (wP_8_4 _ _ cl_79.2) tyX8 tyX8_ok nmX8 rfl (ty := .int) (by decide +kernel) rfl rfl (Nat.le_of_ble_eq_true rfl) aw_879 rfl dX8_image_24 ?_
  refine j_aload_n X 0 rfl rfl dX8_image_27 ?_
  refine j_get X cl_79.1 (wE_8 _ cl_79.2) rfl awF8 4 (by decide) aw_879 rfl (v := .int ((up (up M1 79 3 1) 79 4 (((up M1 79 3 1) 79 4) + 1)) 79 4)) rfl dX8_image_28 ?_
  exact j_iret X hr hlocks dX8_image_31 h
theorem dX8_restore_0 : decode cX8_restore 0 = .ok (.aload_n 0, 1) := dk_42 (by decide +kernel)
theorem dX8_restore_1 : decode cX8_restore 1 = .ok (.getfield 244, 3) := dk_180 (by decide +kernel)
theorem dX8_restore_4 : decode cX8_restore 4 = .ok (.ifCond .ne 10, 3) := dk_154 (by decide +kernel)
theorem dX8_restore_14 : decode cX8_restore 14 = .ok (.aload_n 0, 1) := dk_42 (by decide +kernel)
theorem dX8_restore_15 : decode cX8_restore 15 = .ok (.aload_n 0, 1) := dk_42 (by decide +kernel)
theorem dX8_restore_16 : decode cX8_restore 16 = .ok (.getfield 13, 3) := dk_180 (by decide +kernel)
theorem dX8_restore_19 : decode cX8_restore 19 = .ok (.aload_n 0, 1) := dk_42 (by decide +kernel)
theorem dX8_restore_20 : decode cX8_restore 20 = .ok (.getfield 7, 3) := dk_180 (by decide +kernel)
theorem dX8_restore_23 : decode cX8_restore 23 = .ok (.invokevirtual 175, 3) := dk_182 (by decide +kernel)
theorem dX8_restore_26 : decode cX8_restore 26 = .ok (.aload_n 0, 1) := dk_42 (by decide +kernel)
theorem dX8_restore_27 : decode cX8_restore 27 = .ok (.getfield 7, 3) := dk_180 (by decide +kernel)
theorem dX8_restore_30 : decode cX8_restore 30 = .ok (.iconst 0, 1) := dk_3 (by decide +kernel)
theorem dX8_restore_31 : decode cX8_restore 31 = .ok (.iaload, 1) := dk_46 (by decide +kernel)
theorem dX8_restore_32 : decode cX8_restore 32 = .ok (.ireturn, 1) := dk_172 (by decide +kernel)
theorem dX8_restore_7 : decode cX8_restore 7 = .ok (.aload_n 0, 1) := dk_42 (by decide +kernel)
theorem dX8_restore_8 : decode cX8_restore 8 = .ok (.ldc 194, 2) := dk_18 (by decide +kernel)
theorem dX8_restore_10 : decode cX8_restore 10 = .ok (.invokevirtual 61, 3) := dk_182 (by decide +kernel)
theorem dX8_restore_13 : decode cX8_restore 13 = .ok (.ireturn, 1) := dk_172 (by decide +kernel)
set_option maxRecDepth 100000 in
set_option maxHeartbeats 8000000 in
theorem x_X8_restore (l : Launch) (D : va_G) (y : wY) (ad : Nat → Nat) (M : Mem) (K : Int32 → Mem → Prop) (h : wp_X8_restore M K) : MI l D y ad yX8_restore (Cond.code yX8_restore cX8_restore 1 (some .int)) 1 M [.ref (ad 79)] K := by
  refine MI_of (by decide) (Nat.le_of_ble_eq_true rfl) ?_
  intro p e s m args below meth c X hr hlocks
  delta wp_X8_restore at h
  refine j_lv (lv1 := [(0, .ref (ad 79))]) [0] rfl ?_
  refine j_aload_n X 0 rfl rfl dX8_restore_0 ?_
  refine j_get X cl_79.1 (wE_8 _ cl_79.2) rfl awF8 3 (by decide) aw_878 rfl (v := .int (M 79 3)) rfl dX8_restore_1 ?_
  refine j_if_ne X 14 (by decide) dX8_restore_4 (fun q_1 => ?_) (fun q_1 => ?_)
  · replace h := h.1 q_1
    refine j_aload_n X 0 rfl rfl dX8_restore_14 ?_
    refine j_aload_n X 0 rfl rfl dX8_restore_15 ?_
    refine j_get X cl_79.1 (wE_8 _ cl_79.2) rfl awF8 1 (by decide) aw_93 rfl (v := .ref (ad 81)) rfl dX8_restore_16 ?_
    refine j_aload_n X 0 rfl rfl dX8_restore_19 ?_
    refine j_get X cl_79.1 (wE_8 _ cl_79.2) rfl awF8 0 (by decide) aw_92 rfl (v := .ref (ad 80)) rfl dX8_restore_20 ?_
    refine j_callVV X (nn := 2) (As := [.ref (ad 81), .ref (ad 80)]) (st := []) (ci := 8) cl_79.1 (wE_8 _ cl_79.2) rfl aw_553 aw_554 (x_X8_moveAll l D y ad 81 80 cl_81 cl_80 _ _ h) aw_552 aw_555 aw_5 (by decide +kernel) ⟨Nat.le_of_ble_eq_true rfl, Nat.le_of_ble_eq_true rfl⟩ rfl (Nat.le_of_ble_eq_true rfl) ⟨Nat.le_of_ble_eq_true rfl, Nat.le_of_ble_eq_true rfl⟩ dX8_restore_23 ?_
    intro M2 h
    refine j_aload_n X 0 rfl rfl dX8_restore_26 ?_
    refine j_get X cl_79.1 (wE_8 _ cl_79.2) rfl awF8 0 (by decide) aw_92 rfl (v := .ref (ad 80)) rfl dX8_restore_27 ?_
    refine j_iconst X (v := 0) (by decide) dX8_restore_30 ?_
    refine j_iald X cl_80.1 cl_80.2 (by unfold vp_in; decide) dX8_restore_31 ?_
    refine j_eqi (v := M2 80 0) rfl ?_
    exact j_iret X hr hlocks dX8_restore_32 h
  · replace h := h.2 q_1
    refine j_aload_n X 0 rfl rfl dX8_restore_7 ?_
    refine j_ldc X (v := (-1000000002)) aw_565 dX8_restore_8 ?_
    refine j_callVI X (nn := 1) (As := [.int (-1000000002)]) (st := []) (ci := 8) cl_79.1 (wE_8 _ cl_79.2) rfl aw_144 aw_145 (x_X8_errs l D y ad (-1000000002) _ _ h) aw_143 aw_146 aw_5 (by decide +kernel) ⟨Nat.le_of_ble_eq_true rfl, Nat.le_of_ble_eq_true rfl⟩ rfl (Nat.le_of_ble_eq_true rfl) ⟨Nat.le_of_ble_eq_true rfl, Nat.le_of_ble_eq_true rfl⟩ dX8_restore_10 ?_
    intro r3 M3 h
    exact j_iret X hr hlocks dX8_restore_13 h
theorem dX8_tell_0 : decode cX8_tell 0 = .ok (.aload_n 0, 1) := dk_42 (by decide +kernel)
theorem dX8_tell_1 : decode cX8_tell 1 = .ok (.getfield 7, 3) := dk_180 (by decide +kernel)
theorem dX8_tell_4 : decode cX8_tell 4 = .ok (.iconst 4, 1) := dk_7 (by decide +kernel)
theorem dX8_tell_5 : decode cX8_tell 5 = .ok (.iaload, 1) := dk_46 (by decide +kernel)
theorem dX8_tell_6 : decode cX8_tell 6 = .ok (.bipush 20, 2) := dk_16 (by decide +kernel)
theorem dX8_tell_8 : decode cX8_tell 8 = .ok (.if_icmp .ne 10, 3) := dk_160 (by decide +kernel)
theorem dX8_tell_18 : decode cX8_tell 18 = .ok (.aload_n 0, 1) := dk_42 (by decide +kernel)
theorem dX8_tell_19 : decode cX8_tell 19 = .ok (.getfield 7, 3) := dk_180 (by decide +kernel)
theorem dX8_tell_22 : decode cX8_tell 22 = .ok (.bipush 124, 2) := dk_16 (by decide +kernel)
theorem dX8_tell_24 : decode cX8_tell 24 = .ok (.aload_n 0, 1) := dk_42 (by decide +kernel)
theorem dX8_tell_25 : decode cX8_tell 25 = .ok (.getfield 7, 3) := dk_180 (by decide +kernel)
theorem dX8_tell_28 : decode cX8_tell 28 = .ok (.iconst 4, 1) := dk_7 (by decide +kernel)
theorem dX8_tell_29 : decode cX8_tell 29 = .ok (.iaload, 1) := dk_46 (by decide +kernel)
theorem dX8_tell_30 : decode cX8_tell 30 = .ok (.iadd, 1) := dk_96 (by decide +kernel)
theorem dX8_tell_31 : decode cX8_tell 31 = .ok (.iload_n 1, 1) := dk_27 (by decide +kernel)
theorem dX8_tell_32 : decode cX8_tell 32 = .ok (.iastore, 1) := dk_79 (by decide +kernel)
theorem dX8_tell_33 : decode cX8_tell 33 = .ok (.aload_n 0, 1) := dk_42 (by decide +kernel)
theorem dX8_tell_34 : decode cX8_tell 34 = .ok (.getfield 7, 3) := dk_180 (by decide +kernel)
theorem dX8_tell_37 : decode cX8_tell 37 = .ok (.iconst 4, 1) := dk_7 (by decide +kernel)
theorem dX8_tell_38 : decode cX8_tell 38 = .ok (.dup2, 1) := dk_92 (by decide +kernel)
theorem dX8_tell_39 : decode cX8_tell 39 = .ok (.iaload, 1) := dk_46 (by decide +kernel)
theorem dX8_tell_40 : decode cX8_tell 40 = .ok (.iconst 1, 1) := dk_4 (by decide +kernel)
theorem dX8_tell_41 : decode cX8_tell 41 = .ok (.iadd, 1) := dk_96 (by decide +kernel)
theorem dX8_tell_42 : decode cX8_tell 42 = .ok (.iastore, 1) := dk_79 (by decide +kernel)
theorem dX8_tell_43 : decode cX8_tell 43 = .ok (.aload_n 0, 1) := dk_42 (by decide +kernel)
theorem dX8_tell_44 : decode cX8_tell 44 = .ok (.getfield 7, 3) := dk_180 (by decide +kernel)
theorem dX8_tell_47 : decode cX8_tell 47 = .ok (.iconst 4, 1) := dk_7 (by decide +kernel)
theorem dX8_tell_48 : decode cX8_tell 48 = .ok (.iaload, 1) := dk_46 (by decide +kernel)
theorem dX8_tell_49 : decode cX8_tell 49 = .ok (.ireturn, 1) := dk_172 (by decide +kernel)
theorem dX8_tell_11 : decode cX8_tell 11 = .ok (.aload_n 0, 1) := dk_42 (by decide +kernel)
theorem dX8_tell_12 : decode cX8_tell 12 = .ok (.ldc 68, 2) := dk_18 (by decide +kernel)
theorem dX8_tell_14 : decode cX8_tell 14 = .ok (.invokevirtual 61, 3) := dk_182 (by decide +kernel)
theorem dX8_tell_17 : decode cX8_tell 17 = .ok (.ireturn, 1) := dk_172 (by decide +kernel)
set_option maxRecDepth 100000 in
set_option maxHeartbeats 8000000 in
theorem x_X8_tell (l : Launch) (D : va_G) (y : wY) (ad : Nat → Nat) (i1 : Int32) (M : Mem) (K : Int32 → Mem → Prop) (h : wp_X8_tell i1 M K) : MI l D y ad yX8_tell (Cond.code yX8_tell cX8_tell 2 (some .int)) 1 M [.ref (ad 79), .int i1] K := by
  refine MI_of (by decide) (Nat.le_of_ble_eq_true rfl) ?_
  intro p e s m args below meth c X hr hlocks
  delta wp_X8_tell at h
  refine j_lv (lv1 := [(0, .ref (ad 79)), (1, .int i1)]) [0, 1] rfl ?_
  refine j_aload_n X 0 rfl rfl dX8_tell_0 ?_
  refine j_get X cl_79.1 (wE_8 _ cl_79.2) rfl awF8 0 (by decide) aw_92 rfl (v := .ref (ad 80)) rfl dX8_tell_1 ?_
  refine j_iconst X (v := 4) (by decide) dX8_tell_4 ?_
  refine j_iald X cl_80.1 cl_80.2 (by unfold vp_in; decide) dX8_tell_5 ?_
  refine j_eqi (v := M 80 4) rfl ?_
  refine j_bipush X (v := 20) (by decide) dX8_tell_6 ?_
  refine j_icmp_ne X 18 (by decide) dX8_tell_8 (fun q_1 => ?_) (fun q_1 => ?_)
  · replace h := h.1 q_1
    refine j_aload_n X 0 rfl rfl dX8_tell_18 ?_
    refine j_get X cl_79.1 (wE_8 _ cl_79.2) rfl awF8 0 (by decide) aw_92 rfl (v := .ref (ad 80)) rfl dX8_tell_19 ?_
    refine j_bipush X (v := 124) (by decide) dX8_tell_22 ?_
    refine j_aload_n X 0 rfl rfl dX8_tell_24 ?_
    refine j_get X cl_79.1 (wE_8 _ cl_79.2) rfl awF8 0 (by decide) aw_92 rfl (v := .ref (ad 80)) rfl dX8_tell_25 ?_
    refine j_iconst X (v := 4) (by decide) dX8_tell_28 ?_
    refine j_iald X cl_80.1 cl_80.2 (by unfold vp_in; decide) dX8_tell_29 ?_
    refine j_eqi (v := M 80 4) rfl ?_
    refine j_iadd X dX8_tell_30 ?_
    refine j_iload_n X 1 rfl rfl dX8_tell_31 ?_
    obtain ⟨hi_2, h⟩ := h
    refine j_iast X cl_80.1 cl_80.2 hi_2 dX8_tell_32 ?_
    refine j_aload_n X 0 rfl rfl dX8_tell_33 ?_
    refine j_get X cl_79.1 (wE_8 _ cl_79.2) rfl awF8 0 (by decide) aw_92 rfl (v := .ref (ad 80)) rfl dX8_tell_34 ?_
    refine j_iconst X (v := 4) (by decide) dX8_tell_37 ?_
    refine j_dup2 X rfl rfl dX8_tell_38 ?_
    refine j_iald X cl_80.1 cl_80.2 (by unfold vp_in; decide) dX8_tell_39 ?_
    refine j_eqi (v := (up M 80 (124 + (M 80 4)).toNatClampNeg i1) 80 4) rfl ?_
    refine j_iconst X (v := 1) (by decide) dX8_tell_40 ?_
    refine j_iadd X dX8_tell_41 ?_
    refine j_iast X cl_80.1 cl_80.2 (by unfold vp_in; decide) dX8_tell_42 ?_
    refine j_eqM (M1 := (up (up M 80 (124 + (M 80 4)).toNatClampNeg i1) 80 4 (((up M 80 (124 + (M 80 4)).toNatClampNeg i1) 80 4) + 1))) rfl ?_
    refine j_aload_n X 0 rfl rfl dX8_tell_43 ?_
    refine j_get X cl_79.1 (wE_8 _ cl_79.2) rfl awF8 0 (by decide) aw_92 rfl (v := .ref (ad 80)) rfl dX8_tell_44 ?_
    refine j_iconst X (v := 4) (by decide) dX8_tell_47 ?_
    refine j_iald X cl_80.1 cl_80.2 (by unfold vp_in; decide) dX8_tell_48 ?_
    refine j_eqi (v := (up (up M 80 (124 + (M 80 4)).toNatClampNeg i1) 80 4 (((up M 80 (124 + (M 80 4)).toNatClampNeg i1) 80 4) + 1)) 80 4) rfl ?_
    exact j_iret X hr hlocks dX8_tell_49 h
  · replace h := h.2 q_1
    refine j_aload_n X 0 rfl rfl dX8_tell_11 ?_
    refine j_ldc X (v := (-1000000004)) aw_181 dX8_tell_12 ?_
    refine j_callVI X (nn := 1) (As := [.int (-1000000004)]) (st := []) (ci := 8) cl_79.1 (wE_8 _ cl_79.2) rfl aw_144 aw_145 (x_X8_errs l D y ad (-1000000004) _ _ h) aw_143 aw_146 aw_5 (by decide +kernel) ⟨Nat.le_of_ble_eq_true rfl, Nat.le_of_ble_eq_true rfl⟩ rfl (Nat.le_of_ble_eq_true rfl) ⟨Nat.le_of_ble_eq_true rfl, Nat.le_of_ble_eq_true rfl⟩ dX8_tell_14 ?_
    intro r3 M3 h
    exact j_iret X hr hlocks dX8_tell_17 h
