theorem dX8_text_118 : decode cX8_text 118 = .ok (.iload_n 2, 1) := dk_28 (by decide +kernel)
theorem dX8_text_119 : decode cX8_text 119 = .ok (.aload_n 0, 1) := dk_42 (by decide +kernel)
theorem dX8_text_120 : decode cX8_text 120 = .ok (.getfield 97, 3) := dk_180 (by decide +kernel)
theorem dX8_text_123 : decode cX8_text 123 = .ok (.if_icmp .ge 30, 3) := dk_162 (by decide +kernel)
theorem dX8_text_153 : decode cX8_text 153 = .ok (.iconst 1, 1) := dk_4 (by decide +kernel)
theorem dX8_text_154 : decode cX8_text 154 = .ok (.ireturn, 1) := dk_172 (by decide +kernel)
theorem dX8_text_126 : decode cX8_text 126 = .ok (.aload_n 0, 1) := dk_42 (by decide +kernel)
theorem dX8_text_127 : decode cX8_text 127 = .ok (.getfield 7, 3) := dk_180 (by decide +kernel)
theorem dX8_text_130 : decode cX8_text 130 = .ok (.sipush 144, 3) := dk_17 (by decide +kernel)
theorem dX8_text_133 : decode cX8_text 133 = .ok (.bipush 50, 2) := dk_16 (by decide +kernel)
theorem dX8_text_135 : decode cX8_text 135 = .ok (.iload_n 1, 1) := dk_27 (by decide +kernel)
theorem dX8_text_136 : decode cX8_text 136 = .ok (.imul, 1) := dk_104 (by decide +kernel)
theorem dX8_text_137 : decode cX8_text 137 = .ok (.iadd, 1) := dk_96 (by decide +kernel)
theorem dX8_text_138 : decode cX8_text 138 = .ok (.iload_n 2, 1) := dk_28 (by decide +kernel)
theorem dX8_text_139 : decode cX8_text 139 = .ok (.iadd, 1) := dk_96 (by decide +kernel)
theorem dX8_text_140 : decode cX8_text 140 = .ok (.aload_n 0, 1) := dk_42 (by decide +kernel)
theorem dX8_text_141 : decode cX8_text 141 = .ok (.getfield 22, 3) := dk_180 (by decide +kernel)
theorem dX8_text_144 : decode cX8_text 144 = .ok (.iload_n 2, 1) := dk_28 (by decide +kernel)
theorem dX8_text_145 : decode cX8_text 145 = .ok (.iaload, 1) := dk_46 (by decide +kernel)
theorem dX8_text_146 : decode cX8_text 146 = .ok (.iastore, 1) := dk_79 (by decide +kernel)
theorem dX8_text_147 : decode cX8_text 147 = .ok (.iinc 2 1, 3) := dk_132 (by decide +kernel)
theorem dX8_text_150 : decode cX8_text 150 = .ok (.goto (-32), 3) := dk_167 (by decide +kernel)
theorem dX8_text_0 : decode cX8_text 0 = .ok (.iload_n 1, 1) := dk_27 (by decide +kernel)
theorem dX8_text_1 : decode cX8_text 1 = .ok (.iconst 0, 1) := dk_3 (by decide +kernel)
theorem dX8_text_2 : decode cX8_text 2 = .ok (.iconst 1, 1) := dk_4 (by decide +kernel)
theorem dX8_text_3 : decode cX8_text 3 = .ok (.invokestatic 47, 3) := dk_184 (by decide +kernel)
theorem dX8_text_6 : decode cX8_text 6 = .ok (.ifCond .ne 10, 3) := dk_154 (by decide +kernel)
theorem dX8_text_16 : decode cX8_text 16 = .ok (.aload_n 0, 1) := dk_42 (by decide +kernel)
theorem dX8_text_17 : decode cX8_text 17 = .ok (.iload_n 1, 1) := dk_27 (by decide +kernel)
theorem dX8_text_18 : decode cX8_text 18 = .ok (.putfield 113, 3) := dk_181 (by decide +kernel)
theorem dX8_text_21 : decode cX8_text 21 = .ok (.aload_n 0, 1) := dk_42 (by decide +kernel)
theorem dX8_text_22 : decode cX8_text 22 = .ok (.iconst 0, 1) := dk_3 (by decide +kernel)
theorem dX8_text_23 : decode cX8_text 23 = .ok (.putfield 100, 3) := dk_181 (by decide +kernel)
theorem dX8_text_26 : decode cX8_text 26 = .ok (.aload_n 0, 1) := dk_42 (by decide +kernel)
theorem dX8_text_27 : decode cX8_text 27 = .ok (.aload_n 0, 1) := dk_42 (by decide +kernel)
theorem dX8_text_28 : decode cX8_text 28 = .ok (.getfield 7, 3) := dk_180 (by decide +kernel)
theorem dX8_text_31 : decode cX8_text 31 = .ok (.iconst 3, 1) := dk_6 (by decide +kernel)
theorem dX8_text_32 : decode cX8_text 32 = .ok (.iaload, 1) := dk_46 (by decide +kernel)
theorem dX8_text_33 : decode cX8_text 33 = .ok (.putfield 89, 3) := dk_181 (by decide +kernel)
theorem dX8_text_36 : decode cX8_text 36 = .ok (.aload_n 0, 1) := dk_42 (by decide +kernel)
theorem dX8_text_37 : decode cX8_text 37 = .ok (.iconst 0, 1) := dk_3 (by decide +kernel)
theorem dX8_text_38 : decode cX8_text 38 = .ok (.putfield 122, 3) := dk_181 (by decide +kernel)
theorem dX8_text_41 : decode cX8_text 41 = .ok (.aload_n 0, 1) := dk_42 (by decide +kernel)
theorem dX8_text_42 : decode cX8_text 42 = .ok (.iconst 0, 1) := dk_3 (by decide +kernel)
theorem dX8_text_43 : decode cX8_text 43 = .ok (.putfield 97, 3) := dk_181 (by decide +kernel)
theorem dX8_text_46 : decode cX8_text 46 = .ok (.aload_n 0, 1) := dk_42 (by decide +kernel)
theorem dX8_text_47 : decode cX8_text 47 = .ok (.iconst 1, 1) := dk_4 (by decide +kernel)
theorem dX8_text_48 : decode cX8_text 48 = .ok (.putfield 93, 3) := dk_181 (by decide +kernel)
theorem dX8_text_51 : decode cX8_text 51 = .ok (.aload_n 0, 1) := dk_42 (by decide +kernel)
theorem dX8_text_52 : decode cX8_text 52 = .ok (.invokevirtual 128, 3) := dk_182 (by decide +kernel)
theorem dX8_text_55 : decode cX8_text 55 = .ok (.aload_n 0, 1) := dk_42 (by decide +kernel)
theorem dX8_text_56 : decode cX8_text 56 = .ok (.aload_n 0, 1) := dk_42 (by decide +kernel)
theorem dX8_text_57 : decode cX8_text 57 = .ok (.getfield 93, 3) := dk_180 (by decide +kernel)
theorem dX8_text_60 : decode cX8_text 60 = .ok (.ifCond .eq 18, 3) := dk_153 (by decide +kernel)
theorem dX8_text_78 : decode cX8_text 78 = .ok (.iconst 0, 1) := dk_3 (by decide +kernel)
theorem dX8_text_79 : decode cX8_text 79 = .ok (.putfield 93, 3) := dk_181 (by decide +kernel)
theorem dX8_text_82 : decode cX8_text 82 = .ok (.aload_n 0, 1) := dk_42 (by decide +kernel)
theorem dX8_text_83 : decode cX8_text 83 = .ok (.getfield 7, 3) := dk_180 (by decide +kernel)
theorem dX8_text_86 : decode cX8_text 86 = .ok (.iconst 3, 1) := dk_6 (by decide +kernel)
theorem dX8_text_87 : decode cX8_text 87 = .ok (.iconst 0, 1) := dk_3 (by decide +kernel)
theorem dX8_text_88 : decode cX8_text 88 = .ok (.iastore, 1) := dk_79 (by decide +kernel)
theorem dX8_text_89 : decode cX8_text 89 = .ok (.aload_n 0, 1) := dk_42 (by decide +kernel)
theorem dX8_text_90 : decode cX8_text 90 = .ok (.getfield 93, 3) := dk_180 (by decide +kernel)
theorem dX8_text_93 : decode cX8_text 93 = .ok (.ifCond .ne 11, 3) := dk_154 (by decide +kernel)
theorem dX8_text_104 : decode cX8_text 104 = .ok (.aload_n 0, 1) := dk_42 (by decide +kernel)
theorem dX8_text_105 : decode cX8_text 105 = .ok (.getfield 7, 3) := dk_180 (by decide +kernel)
theorem dX8_text_108 : decode cX8_text 108 = .ok (.iconst 5, 1) := dk_8 (by decide +kernel)
theorem dX8_text_109 : decode cX8_text 109 = .ok (.iload_n 1, 1) := dk_27 (by decide +kernel)
theorem dX8_text_110 : decode cX8_text 110 = .ok (.iadd, 1) := dk_96 (by decide +kernel)
theorem dX8_text_111 : decode cX8_text 111 = .ok (.aload_n 0, 1) := dk_42 (by decide +kernel)
theorem dX8_text_112 : decode cX8_text 112 = .ok (.getfield 97, 3) := dk_180 (by decide +kernel)
theorem dX8_text_115 : decode cX8_text 115 = .ok (.iastore, 1) := dk_79 (by decide +kernel)
theorem dX8_text_116 : decode cX8_text 116 = .ok (.iconst 0, 1) := dk_3 (by decide +kernel)
theorem dX8_text_117 : decode cX8_text 117 = .ok (.istore_n 2, 1) := dk_61 (by decide +kernel)
theorem dX8_text_96 : decode cX8_text 96 = .ok (.bipush (-10), 2) := dk_16 (by decide +kernel)
theorem dX8_text_98 : decode cX8_text 98 = .ok (.aload_n 0, 1) := dk_42 (by decide +kernel)
theorem dX8_text_99 : decode cX8_text 99 = .ok (.getfield 100, 3) := dk_180 (by decide +kernel)
theorem dX8_text_102 : decode cX8_text 102 = .ok (.isub, 1) := dk_100 (by decide +kernel)
theorem dX8_text_103 : decode cX8_text 103 = .ok (.ireturn, 1) := dk_172 (by decide +kernel)
theorem dX8_text_63 : decode cX8_text 63 = .ok (.aload_n 0, 1) := dk_42 (by decide +kernel)
theorem dX8_text_64 : decode cX8_text 64 = .ok (.getfield 100, 3) := dk_180 (by decide +kernel)
theorem dX8_text_67 : decode cX8_text 67 = .ok (.aload_n 0, 1) := dk_42 (by decide +kernel)
theorem dX8_text_68 : decode cX8_text 68 = .ok (.getfield 89, 3) := dk_180 (by decide +kernel)
theorem dX8_text_71 : decode cX8_text 71 = .ok (.if_icmp .ne 7, 3) := dk_160 (by decide +kernel)
theorem dX8_text_74 : decode cX8_text 74 = .ok (.iconst 1, 1) := dk_4 (by decide +kernel)
theorem dX8_text_75 : decode cX8_text 75 = .ok (.goto 4, 3) := dk_167 (by decide +kernel)
theorem dX8_text_9 : decode cX8_text 9 = .ok (.aload_n 0, 1) := dk_42 (by decide +kernel)
theorem dX8_text_10 : decode cX8_text 10 = .ok (.ldc 60, 2) := dk_18 (by decide +kernel)
theorem dX8_text_12 : decode cX8_text 12 = .ok (.invokevirtual 61, 3) := dk_182 (by decide +kernel)
theorem dX8_text_15 : decode cX8_text 15 = .ok (.ireturn, 1) := dk_172 (by decide +kernel)
set_option maxRecDepth 100000 in
set_option maxHeartbeats 8000000 in
theorem x_X8_text (l : Launch) (D : va_G) (y : wY) (ad : Nat → Nat) (i1 : Int32) (M : Mem) (K : Int32 → Mem → Prop) (h : wp_X8_text i1 M K) : MI l D y ad yX8_text (Cond.code yX8_text cX8_text 3 (some .int)) 68 M [.ref (ad 79), .int i1] K := by
  refine MI_of (by decide) (Nat.le_of_ble_eq_true rfl) ?_
  intro p e s m args below meth c X hr hlocks
  have hL118 : ∀ (i1 : Int32) (n : Nat) (i2 : Int32) (Mb : Mem), wp_X8_text_L118 K i1 n i2 Mb → J p l e (rmN 68) s m args below meth c 0 0 (QI K D y ad M s args below) D y ad (va_A (PL y ad M) s.heap.size) 3 Mb 118 [(0, .ref (ad 79)), (1, .int i1), (2, .int i2)] [] := by
    intro i1 n
    induction n with
    | zero => intro i2 Mb h; exact False.elim h
    | succ n hB118 =>
      intro i2 Mb h
      replace h : wp_X8_text_l118 K i1 (wp_X8_text_L118 K i1 n) i2 Mb := h
      delta wp_X8_text_l118 at h
      refine j_iload_n X 2 rfl rfl dX8_text_118 ?_
      refine j_aload_n X 0 rfl rfl dX8_text_119 ?_
      refine j_get X cl_79.1 (wE_8 _ cl_79.2) rfl awF8 10 (by decide) aw_381 rfl (v := .int (Mb 79 10)) rfl dX8_text_120 ?_
      refine j_icmp_ge X 153 (by decide) dX8_text_123 (fun q_11801 => ?_) (fun q_11801 => ?_)
      · replace h := h.1 q_11801
        refine j_iconst X (v := 1) (by decide) dX8_text_153 ?_
        exact j_iret X hr hlocks dX8_text_154 h
      · replace h := h.2 q_11801
        refine j_aload_n X 0 rfl rfl dX8_text_126 ?_
        refine j_get X cl_79.1 (wE_8 _ cl_79.2) rfl awF8 0 (by decide) aw_92 rfl (v := .ref (ad 80)) rfl dX8_text_127 ?_
        refine j_sipush X (v := 144) (by decide) dX8_text_130 ?_
        refine j_bipush X (v := 50) (by decide) dX8_text_133 ?_
        refine j_iload_n X 1 rfl rfl dX8_text_135 ?_
        refine j_imul X dX8_text_136 ?_
        refine j_iadd X dX8_text_137 ?_
        refine j_iload_n X 2 rfl rfl dX8_text_138 ?_
        refine j_iadd X dX8_text_139 ?_
        refine j_aload_n X 0 rfl rfl dX8_text_140 ?_
        refine j_get X cl_79.1 (wE_8 _ cl_79.2) rfl awF8 12 (by decide) aw_96 rfl (v := .ref (ad 84)) rfl dX8_text_141 ?_
        refine j_iload_n X 2 rfl rfl dX8_text_144 ?_
        obtain ⟨hi_11802, h⟩ := h
        refine j_iald X cl_84.1 cl_84.2 hi_11802 dX8_text_145 ?_
        obtain ⟨hi_11803, h⟩ := h
        refine j_iast X cl_80.1 cl_80.2 hi_11803 dX8_text_146 ?_
        refine j_iinc X (v := (i2 + 1)) 2 [(2, .int (i2 + 1)), (0, .ref (ad 79)), (1, .int i1)] rfl rfl (by decide) rfl dX8_text_147 ?_
        refine j_goto X 118 (by decide) dX8_text_150 ?_
        refine j_lv (lv1 := [(0, .ref (ad 79)), (1, .int i1), (2, .int (i2 + 1))]) [1, 2, 0] rfl ?_
        exact hB118 _ _ h
  delta wp_X8_text at h
  refine j_lv (lv1 := [(0, .ref (ad 79)), (1, .int i1)]) [0, 1] rfl ?_
  refine j_iload_n X 1 rfl rfl dX8_text_0 ?_
  refine j_iconst X (v := 0) (by decide) dX8_text_1 ?_
  refine j_iconst X (v := 1) (by decide) dX8_text_2 ?_
  refine j_callSI X (nn := 3) (As := [.int i1, .int 0, .int 1]) (st := []) aw_134 (x_X8_in l D y ad i1 0 1 _ _ h) aw_133 aw_135 aw_5 (by decide +kernel) ⟨Nat.le_of_ble_eq_true rfl, Nat.le_of_ble_eq_true rfl⟩ rfl (Nat.le_of_ble_eq_true rfl) ⟨Nat.le_of_ble_eq_true rfl, Nat.le_of_ble_eq_true rfl⟩ dX8_text_3 ?_
  intro r1 M1 h
  refine j_if_ne X 16 (by decide) dX8_text_6 (fun q_2 => ?_) (fun q_2 => ?_)
  · replace h := h.1 q_2
    refine j_aload_n X 0 rfl rfl dX8_text_16 ?_
    refine j_iload_n X 1 rfl rfl dX8_text_17 ?_
    refine j_put X (up M1 79 6 i1) up_o cl_79.1 (wE_8 _ cl_79.2) rfl awF8 6 (by decide) (wP_8_6 _ _ cl_79.2) tyX8 tyX8_ok nmX8 rfl (ty := .int) (by decide +kernel) rfl rfl (Nat.le_of_ble_eq_true rfl) aw_377 rfl dX8_text_18 ?_
    refine j_aload_n X 0 rfl rfl dX8_text_21 ?_
    refine j_iconst X (v := 0) (by decide) dX8_text_22 ?_
    refine j_put X (up (up M1 79 6 i1) 79 7 0) up_o cl_79.1 (wE_8 _ cl_79.2) rfl awF8 7 (by decide) (wP_8_7 _ _ cl_79.2) tyX8 tyX8_ok nmX8 rfl (ty := .int) (by decide +kernel) rfl rfl (Nat.le_of_ble_eq_true rfl) aw_378 rfl dX8_text_23 ?_
    refine j_aload_n X 0 rfl rfl dX8_text_26 ?_
    refine j_aload_n X 0 rfl rfl dX8_text_27 ?_
    refine j_get X cl_79.1 (wE_8 _ cl_79.2) rfl awF8 0 (by decide) aw_92 rfl (v := .ref (ad 80)) rfl dX8_text_28 ?_
    refine j_iconst X (v := 3) (by decide) dX8_text_31 ?_
    refine j_iald X cl_80.1 cl_80.2 (by unfold vp_in; decide) dX8_text_32 ?_
    refine j_eqi (v := (up (up M1 79 6 i1) 79 7 0) 80 3) rfl ?_
    refine j_put X (up (up (up M1 79 6 i1) 79 7 0) 79 8 ((up (up M1 79 6 i1) 79 7 0) 80 3)) up_o cl_79.1 (wE_8 _ cl_79.2) rfl awF8 8 (by decide) (wP_8_8 _ _ cl_79.2) tyX8 tyX8_ok nmX8 rfl (ty := .int) (by decide +kernel) rfl rfl (Nat.le_of_ble_eq_true rfl) aw_379 rfl dX8_text_33 ?_
    refine j_aload_n X 0 rfl rfl dX8_text_36 ?_
    refine j_iconst X (v := 0) (by decide) dX8_text_37 ?_
    refine j_put X (up (up (up (up M1 79 6 i1) 79 7 0) 79 8 ((up (up M1 79 6 i1) 79 7 0) 80 3)) 79 9 0) up_o cl_79.1 (wE_8 _ cl_79.2) rfl awF8 9 (by decide) (wP_8_9 _ _ cl_79.2) tyX8 tyX8_ok nmX8 rfl (ty := .int) (by decide +kernel) rfl rfl (Nat.le_of_ble_eq_true rfl) aw_380 rfl dX8_text_38 ?_
    refine j_aload_n X 0 rfl rfl dX8_text_41 ?_
    refine j_iconst X (v := 0) (by decide) dX8_text_42 ?_
    refine j_put X (up (up (up (up (up M1 79 6 i1) 79 7 0) 79 8 ((up (up M1 79 6 i1) 79 7 0) 80 3)) 79 9 0) 79 10 0) up_o cl_79.1 (wE_8 _ cl_79.2) rfl awF8 10 (by decide) (wP_8_10 _ _ cl_79.2) tyX8 tyX8_ok nmX8 rfl (ty := .int) (by decide +kernel) rfl rfl (Nat.le_of_ble_eq_true rfl) aw_381 rfl dX8_text_43 ?_
    refine j_aload_n X 0 rfl rfl dX8_text_46 ?_
    refine j_iconst X (v := 1) (by decide) dX8_text_47 ?_
    refine j_put X (up (up (up (up (up (up M1 79 6 i1) 79 7 0) 79 8 ((up (up M1 79 6 i1) 79 7 0) 80 3)) 79 9 0) 79 10 0) 79 11 1) up_o cl_79.1 (wE_8 _ cl_79.2) rfl awF8 11 (by decide) (wP_8_11 _ _ cl_79.2) tyX8 tyX8_ok nmX8 rfl (ty := .boolean) (by decide +kernel) rfl rfl (Nat.le_of_ble_eq_true rfl) aw_382 rfl dX8_text_48 ?_
    refine j_aload_n X 0 rfl rfl dX8_text_51 ?_
    refine j_callVV X (nn := 0) (As := []) (st := []) (ci := 8) cl_79.1 (wE_8 _ cl_79.2) rfl aw_384 aw_385 (x_X8_whole l D y ad 64  _ _ h) aw_383 aw_386 aw_5 (by decide +kernel) ⟨Nat.le_of_ble_eq_true rfl, Nat.le_of_ble_eq_true rfl⟩ rfl (Nat.le_of_ble_eq_true rfl) ⟨Nat.le_of_ble_eq_true rfl, Nat.le_of_ble_eq_true rfl⟩ dX8_text_52 ?_
    intro M3 h
    refine j_aload_n X 0 rfl rfl dX8_text_55 ?_
    refine j_aload_n X 0 rfl rfl dX8_text_56 ?_
    refine j_get X cl_79.1 (wE_8 _ cl_79.2) rfl awF8 11 (by decide) aw_382 rfl (v := .int (M3 79 11)) rfl dX8_text_57 ?_
    refine j_if_eq X 78 (by decide) dX8_text_60 (fun q_4 => ?_) (fun q_4 => ?_)
    · replace h := h.1 q_4
      refine j_iconst X (v := 0) (by decide) dX8_text_78 ?_
      refine j_put X (up M3 79 11 0) up_o cl_79.1 (wE_8 _ cl_79.2) rfl awF8 11 (by decide) (wP_8_11 _ _ cl_79.2) tyX8 tyX8_ok nmX8 rfl (ty := .boolean) (by decide +kernel) rfl rfl (Nat.le_of_ble_eq_true rfl) aw_382 rfl dX8_text_79 ?_
      refine j_aload_n X 0 rfl rfl dX8_text_82 ?_
      refine j_get X cl_79.1 (wE_8 _ cl_79.2) rfl awF8 0 (by decide) aw_92 rfl (v := .ref (ad 80)) rfl dX8_text_83 ?_
      refine j_iconst X (v := 3) (by decide) dX8_text_86 ?_
      refine j_iconst X (v := 0) (by decide) dX8_text_87 ?_
      refine j_iast X cl_80.1 cl_80.2 (by unfold vp_in; decide) dX8_text_88 ?_
      refine j_eqM (M1 := (up (up M3 79 11 0) 80 3 0)) rfl ?_
      refine j_aload_n X 0 rfl rfl dX8_text_89 ?_
      refine j_get X cl_79.1 (wE_8 _ cl_79.2) rfl awF8 11 (by decide) aw_382 rfl (v := .int ((up (up M3 79 11 0) 80 3 0) 79 11)) rfl dX8_text_90 ?_
      refine j_if_ne X 104 (by decide) dX8_text_93 (fun q_5 => ?_) (fun q_5 => ?_)
      · replace h := h.1 q_5
        refine j_aload_n X 0 rfl rfl dX8_text_104 ?_
        refine j_get X cl_79.1 (wE_8 _ cl_79.2) rfl awF8 0 (by decide) aw_92 rfl (v := .ref (ad 80)) rfl dX8_text_105 ?_
        refine j_iconst X (v := 5) (by decide) dX8_text_108 ?_
        refine j_iload_n X 1 rfl rfl dX8_text_109 ?_
        refine j_iadd X dX8_text_110 ?_
        refine j_aload_n X 0 rfl rfl dX8_text_111 ?_
        refine j_get X cl_79.1 (wE_8 _ cl_79.2) rfl awF8 10 (by decide) aw_381 rfl (v := .int ((up (up M3 79 11 0) 80 3 0) 79 10)) rfl dX8_text_112 ?_
        obtain ⟨hi_6, h⟩ := h
        refine j_iast X cl_80.1 cl_80.2 hi_6 dX8_text_115 ?_
        refine j_iconst X (v := 0) (by decide) dX8_text_116 ?_
        refine j_istore_n X [(2, .int 0), (0, .ref (ad 79)), (1, .int i1)] rfl (by decide) rfl dX8_text_117 ?_
        refine j_lv (lv1 := [(0, .ref (ad 79)), (1, .int i1), (2, .int 0)]) [1, 2, 0] rfl ?_
        obtain ⟨n118, h⟩ := h
        exact hL118 _   n118 _ _ h
      · replace h := h.2 q_5
        refine j_bipush X (v := (-10)) (by decide) dX8_text_96 ?_
        refine j_aload_n X 0 rfl rfl dX8_text_98 ?_
        refine j_get X cl_79.1 (wE_8 _ cl_79.2) rfl awF8 7 (by decide) aw_378 rfl (v := .int ((up (up M3 79 11 0) 80 3 0) 79 7)) rfl dX8_text_99 ?_
        refine j_isub X dX8_text_102 ?_
        exact j_iret X hr hlocks dX8_text_103 h
    · replace h := h.2 q_4
      refine j_aload_n X 0 rfl rfl dX8_text_63 ?_
      refine j_get X cl_79.1 (wE_8 _ cl_79.2) rfl awF8 7 (by decide) aw_378 rfl (v := .int (M3 79 7)) rfl dX8_text_64 ?_
      refine j_aload_n X 0 rfl rfl dX8_text_67 ?_
      refine j_get X cl_79.1 (wE_8 _ cl_79.2) rfl awF8 8 (by decide) aw_379 rfl (v := .int (M3 79 8)) rfl dX8_text_68 ?_
      refine j_icmp_ne X 78 (by decide) dX8_text_71 (fun q_7 => ?_) (fun q_7 => ?_)
      · replace h := h.1 q_7
        refine j_iconst X (v := 0) (by decide) dX8_text_78 ?_
        refine j_put X (up M3 79 11 0) up_o cl_79.1 (wE_8 _ cl_79.2) rfl awF8 11 (by decide) (wP_8_11 _ _ cl_79.2) tyX8 tyX8_ok nmX8 rfl (ty := .boolean) (by decide +kernel) rfl rfl (Nat.le_of_ble_eq_true rfl) aw_382 rfl dX8_text_79 ?_
        refine j_aload_n X 0 rfl rfl dX8_text_82 ?_
        refine j_get X cl_79.1 (wE_8 _ cl_79.2) rfl awF8 0 (by decide) aw_92 rfl (v := .ref (ad 80)) rfl dX8_text_83 ?_
        refine j_iconst X (v := 3) (by decide) dX8_text_86 ?_
        refine j_iconst X (v := 0) (by decide) dX8_text_87 ?_
        refine j_iast X cl_80.1 cl_80.2 (by unfold vp_in; decide) dX8_text_88 ?_
        refine j_eqM (M1 := (up (up M3 79 11 0) 80 3 0)) rfl ?_
        refine j_aload_n X 0 rfl rfl dX8_text_89 ?_
        refine j_get X cl_79.1 (wE_8 _ cl_79.2) rfl awF8 11 (by decide) aw_382 rfl (v := .int ((up (up M3 79 11 0) 80 3 0) 79 11)) rfl dX8_text_90 ?_
        refine j_if_ne X 104 (by decide) dX8_text_93 (fun q_8 => ?_) (fun q_8 => ?_)
        · replace h := h.1 q_8
          refine j_aload_n X 0 rfl rfl dX8_text_104 ?_
          refine j_get X cl_79.1 (wE_8 _ cl_79.2) rfl awF8 0 (by decide) aw_92 rfl (v := .ref (ad 80)) rfl dX8_text_105 ?_
          refine j_iconst X (v := 5) (by decide) dX8_text_108 ?_
          refine j_iload_n X 1 rfl rfl dX8_text_109 ?_
          refine j_iadd X dX8_text_110 ?_
          refine j_aload_n X 0 rfl rfl dX8_text_111 ?_
          refine j_get X cl_79.1 (wE_8 _ cl_79.2) rfl awF8 10 (by decide) aw_381 rfl (v := .int ((up (up M3 79 11 0) 80 3 0) 79 10)) rfl dX8_text_112 ?_
          obtain ⟨hi_9, h⟩ := h
          refine j_iast X cl_80.1 cl_80.2 hi_9 dX8_text_115 ?_
          refine j_iconst X (v := 0) (by decide) dX8_text_116 ?_
          refine j_istore_n X [(2, .int 0), (0, .ref (ad 79)), (1, .int i1)] rfl (by decide) rfl dX8_text_117 ?_
          refine j_lv (lv1 := [(0, .ref (ad 79)), (1, .int i1), (2, .int 0)]) [1, 2, 0] rfl ?_
          obtain ⟨n118, h⟩ := h
          exact hL118 _   n118 _ _ h
        · replace h := h.2 q_8
          refine j_bipush X (v := (-10)) (by decide) dX8_text_96 ?_
          refine j_aload_n X 0 rfl rfl dX8_text_98 ?_
          refine j_get X cl_79.1 (wE_8 _ cl_79.2) rfl awF8 7 (by decide) aw_378 rfl (v := .int ((up (up M3 79 11 0) 80 3 0) 79 7)) rfl dX8_text_99 ?_
          refine j_isub X dX8_text_102 ?_
          exact j_iret X hr hlocks dX8_text_103 h
      · replace h := h.2 q_7
        refine j_iconst X (v := 1) (by decide) dX8_text_74 ?_
        refine j_goto X 79 (by decide) dX8_text_75 ?_
        refine j_put X (up M3 79 11 1) up_o cl_79.1 (wE_8 _ cl_79.2) rfl awF8 11 (by decide) (wP_8_11 _ _ cl_79.2) tyX8 tyX8_ok nmX8 rfl (ty := .boolean) (by decide +kernel) rfl rfl (Nat.le_of_ble_eq_true rfl) aw_382 rfl dX8_text_79 ?_
        refine j_aload_n X 0 rfl rfl dX8_text_82 ?_
        refine j_get X cl_79.1 (wE_8 _ cl_79.2) rfl awF8 0 (by decide) aw_92 rfl (v := .ref (ad 80)) rfl dX8_text_83 ?_
        refine j_iconst X (v := 3) (by decide) dX8_text_86 ?_
        refine j_iconst X (v := 0) (by decide) dX8_text_87 ?_
        refine j_iast X cl_80.1 cl_80.2 (by unfold vp_in; decide) dX8_text_88 ?_
        refine j_eqM (M1 := (up (up M3 79 11 1) 80 3 0)) rfl ?_
        refine j_aload_n X 0 rfl rfl dX8_text_89 ?_
        refine j_get X cl_79.1 (wE_8 _ cl_79.2) rfl awF8 11 (by decide) aw_382 rfl (v := .int ((up (up M3 79 11 1) 80 3 0) 79 11)) rfl dX8_text_90 ?_
        refine j_if_ne X 104 (by decide) dX8_text_93 (fun q_10 => ?_) (fun q_10 => ?_)
        · replace h := h.1 q_10
          refine j_aload_n X 0 rfl rfl dX8_text_104 ?_
          refine j_get X cl_79.1 (wE_8 _ cl_79.2) rfl awF8 0 (by decide) aw_92 rfl (v := .ref (ad 80)) rfl dX8_text_105 ?_
          refine j_iconst X (v := 5) (by decide) dX8_text_108 ?_
          refine j_iload_n X 1 rfl rfl dX8_text_109 ?_
          refine j_iadd X dX8_text_110 ?_
          refine j_aload_n X 0 rfl rfl dX8_text_111 ?_
          refine j_get X cl_79.1 (wE_8 _ cl_79.2) rfl awF8 10 (by decide) aw_381 rfl (v := .int ((up (up M3 79 11 1) 80 3 0) 79 10)) rfl dX8_text_112 ?_
          obtain ⟨hi_11, h⟩ := h
          refine j_iast X cl_80.1 cl_80.2 hi_11 dX8_text_115 ?_
          refine j_iconst X (v := 0) (by decide) dX8_text_116 ?_
          refine j_istore_n X [(2, .int 0), (0, .ref (ad 79)), (1, .int i1)] rfl (by decide) rfl dX8_text_117 ?_
          refine j_lv (lv1 := [(0, .ref (ad 79)), (1, .int i1), (2, .int 0)]) [1, 2, 0] rfl ?_
          obtain ⟨n118, h⟩ := h
          exact hL118 _   n118 _ _ h
        · replace h := h.2 q_10
          refine j_bipush X (v := (-10)) (by decide) dX8_text_96 ?_
          refine j_aload_n X 0 rfl rfl dX8_text_98 ?_
          refine j_get X cl_79.1 (wE_8 _ cl_79.2) rfl awF8 7 (by decide) aw_378 rfl (v := .int ((up (up M3 79 11 1) 80 3 0) 79 7)) rfl dX8_text_99 ?_
          refine j_isub X dX8_text_102 ?_
          exact j_iret X hr hlocks dX8_text_103 h
  · replace h := h.2 q_2
    refine j_aload_n X 0 rfl rfl dX8_text_9 ?_
    refine j_ldc X (v := (-1000000001)) aw_132 dX8_text_10 ?_
    refine j_callVI X (nn := 1) (As := [.int (-1000000001)]) (st := []) (ci := 8) cl_79.1 (wE_8 _ cl_79.2) rfl aw_144 aw_145 (x_X8_errs l D y ad (-1000000001) _ _ h) aw_143 aw_146 aw_5 (by decide +kernel) ⟨Nat.le_of_ble_eq_true rfl, Nat.le_of_ble_eq_true rfl⟩ rfl (Nat.le_of_ble_eq_true rfl) ⟨Nat.le_of_ble_eq_true rfl, Nat.le_of_ble_eq_true rfl⟩ dX8_text_12 ?_
    intro r12 M12 h
    exact j_iret X hr hlocks dX8_text_15 h
theorem dX8_isOver_0 : decode cX8_isOver 0 = .ok (.aload_n 0, 1) := dk_42 (by decide +kernel)
theorem dX8_isOver_1 : decode cX8_isOver 1 = .ok (.iload_n 1, 1) := dk_27 (by decide +kernel)
theorem dX8_isOver_2 : decode cX8_isOver 2 = .ok (.iconst 5, 1) := dk_8 (by decide +kernel)
theorem dX8_isOver_3 : decode cX8_isOver 3 = .ok (.invokevirtual 65, 3) := dk_182 (by decide +kernel)
theorem dX8_isOver_6 : decode cX8_isOver 6 = .ok (.iconst 1, 1) := dk_4 (by decide +kernel)
theorem dX8_isOver_7 : decode cX8_isOver 7 = .ok (.if_icmp .ne 7, 3) := dk_160 (by decide +kernel)
theorem dX8_isOver_14 : decode cX8_isOver 14 = .ok (.iconst 0, 1) := dk_3 (by decide +kernel)
theorem dX8_isOver_15 : decode cX8_isOver 15 = .ok (.ireturn, 1) := dk_172 (by decide +kernel)
theorem dX8_isOver_10 : decode cX8_isOver 10 = .ok (.iconst 1, 1) := dk_4 (by decide +kernel)
theorem dX8_isOver_11 : decode cX8_isOver 11 = .ok (.goto 4, 3) := dk_167 (by decide +kernel)
set_option maxRecDepth 100000 in
set_option maxHeartbeats 8000000 in
theorem x_X8_isOver (l : Launch) (D : va_G) (y : wY) (ad : Nat → Nat) (i1 : Int32) (M : Mem) (K : Int32 → Mem → Prop) (h : wp_X8_isOver i1 M K) : MI l D y ad yX8_isOver (Cond.code yX8_isOver cX8_isOver 2 (some .boolean)) 1 M [.ref (ad 79), .int i1] K := by
  refine MI_of (by decide) (Nat.le_of_ble_eq_true rfl) ?_
  intro p e s m args below meth c X hr hlocks
  delta wp_X8_isOver at h
  refine j_lv (lv1 := [(0, .ref (ad 79)), (1, .int i1)]) [0, 1] rfl ?_
  refine j_aload_n X 0 rfl rfl dX8_isOver_0 ?_
  refine j_iload_n X 1 rfl rfl dX8_isOver_1 ?_
  refine j_iconst X (v := 5) (by decide) dX8_isOver_2 ?_
  refine j_callVI X (nn := 2) (As := [.int i1, .int 5]) (st := []) (ci := 8) cl_79.1 (wE_8 _ cl_79.2) rfl aw_161 aw_162 (x_X8_its l D y ad i1 5 _ _ h) aw_160 aw_163 aw_5 (by decide +kernel) ⟨Nat.le_of_ble_eq_true rfl, Nat.le_of_ble_eq_true rfl⟩ rfl (Nat.le_of_ble_eq_true rfl) ⟨Nat.le_of_ble_eq_true rfl, Nat.le_of_ble_eq_true rfl⟩ dX8_isOver_3 ?_
  intro r1 M1 h
  refine j_iconst X (v := 1) (by decide) dX8_isOver_6 ?_
  refine j_icmp_ne X 14 (by decide) dX8_isOver_7 (fun q_2 => ?_) (fun q_2 => ?_)
  · replace h := h.1 q_2
    refine j_iconst X (v := 0) (by decide) dX8_isOver_14 ?_
    exact j_zret X hr hlocks (Or.inl rfl) dX8_isOver_15 h
  · replace h := h.2 q_2
    refine j_iconst X (v := 1) (by decide) dX8_isOver_10 ?_
    refine j_goto X 15 (by decide) dX8_isOver_11 ?_
    exact j_zret X hr hlocks (Or.inr rfl) dX8_isOver_15 h
theorem dX8_isLoose_0 : decode cX8_isLoose 0 = .ok (.aload_n 0, 1) := dk_42 (by decide +kernel)
theorem dX8_isLoose_1 : decode cX8_isLoose 1 = .ok (.iload_n 1, 1) := dk_27 (by decide +kernel)
theorem dX8_isLoose_2 : decode cX8_isLoose 2 = .ok (.iconst 4, 1) := dk_7 (by decide +kernel)
theorem dX8_isLoose_3 : decode cX8_isLoose 3 = .ok (.invokevirtual 65, 3) := dk_182 (by decide +kernel)
theorem dX8_isLoose_6 : decode cX8_isLoose 6 = .ok (.ifCond .lt 16, 3) := dk_155 (by decide +kernel)
theorem dX8_isLoose_22 : decode cX8_isLoose 22 = .ok (.iconst 1, 1) := dk_4 (by decide +kernel)
theorem dX8_isLoose_23 : decode cX8_isLoose 23 = .ok (.goto 4, 3) := dk_167 (by decide +kernel)
theorem dX8_isLoose_27 : decode cX8_isLoose 27 = .ok (.ireturn, 1) := dk_172 (by decide +kernel)
theorem dX8_isLoose_9 : decode cX8_isLoose 9 = .ok (.aload_n 0, 1) := dk_42 (by decide +kernel)
theorem dX8_isLoose_10 : decode cX8_isLoose 10 = .ok (.aload_n 0, 1) := dk_42 (by decide +kernel)
theorem dX8_isLoose_11 : decode cX8_isLoose 11 = .ok (.iload_n 1, 1) := dk_27 (by decide +kernel)
theorem dX8_isLoose_12 : decode cX8_isLoose 12 = .ok (.iconst 4, 1) := dk_7 (by decide +kernel)
theorem dX8_isLoose_13 : decode cX8_isLoose 13 = .ok (.invokevirtual 65, 3) := dk_182 (by decide +kernel)
theorem dX8_isLoose_16 : decode cX8_isLoose 16 = .ok (.invokevirtual 159, 3) := dk_182 (by decide +kernel)
theorem dX8_isLoose_19 : decode cX8_isLoose 19 = .ok (.ifCond .eq 7, 3) := dk_153 (by decide +kernel)
theorem dX8_isLoose_26 : decode cX8_isLoose 26 = .ok (.iconst 0, 1) := dk_3 (by decide +kernel)
set_option maxRecDepth 100000 in
set_option maxHeartbeats 8000000 in
theorem x_X8_isLoose (l : Launch) (D : va_G) (y : wY) (ad : Nat → Nat) (i1 : Int32) (M : Mem) (K : Int32 → Mem → Prop) (h : wp_X8_isLoose i1 M K) : MI l D y ad yX8_isLoose (Cond.code yX8_isLoose cX8_isLoose 2 (some .boolean)) 2 M [.ref (ad 79), .int i1] K := by
  refine MI_of (by decide) (Nat.le_of_ble_eq_true rfl) ?_
  intro p e s m args below meth c X hr hlocks
  delta wp_X8_isLoose at h
  refine j_lv (lv1 := [(0, .ref (ad 79)), (1, .int i1)]) [0, 1] rfl ?_
  refine j_aload_n X 0 rfl rfl dX8_isLoose_0 ?_
  refine j_iload_n X 1 rfl rfl dX8_isLoose_1 ?_
  refine j_iconst X (v := 4) (by decide) dX8_isLoose_2 ?_
  refine j_callVI X (nn := 2) (As := [.int i1, .int 4]) (st := []) (ci := 8) cl_79.1 (wE_8 _ cl_79.2) rfl aw_161 aw_162 (x_X8_its l D y ad i1 4 _ _ h) aw_160 aw_163 aw_5 (by decide +kernel) ⟨Nat.le_of_ble_eq_true rfl, Nat.le_of_ble_eq_true rfl⟩ rfl (Nat.le_of_ble_eq_true rfl) ⟨Nat.le_of_ble_eq_true rfl, Nat.le_of_ble_eq_true rfl⟩ dX8_isLoose_3 ?_
  intro r1 M1 h
  refine j_if_lt X 22 (by decide) dX8_isLoose_6 (fun q_2 => ?_) (fun q_2 => ?_)
  · replace h := h.1 q_2
    refine j_iconst X (v := 1) (by decide) dX8_isLoose_22 ?_
    refine j_goto X 27 (by decide) dX8_isLoose_23 ?_
    exact j_zret X hr hlocks (Or.inr rfl) dX8_isLoose_27 h
  · replace h := h.2 q_2
    refine j_aload_n X 0 rfl rfl dX8_isLoose_9 ?_
    refine j_aload_n X 0 rfl rfl dX8_isLoose_10 ?_
    refine j_iload_n X 1 rfl rfl dX8_isLoose_11 ?_
    refine j_iconst X (v := 4) (by decide) dX8_isLoose_12 ?_
    refine j_callVI X (nn := 2) (As := [.int i1, .int 4]) (st := [.ref (ad 79)]) (ci := 8) cl_79.1 (wE_8 _ cl_79.2) rfl aw_161 aw_162 (x_X8_its l D y ad i1 4 _ _ h) aw_160 aw_163 aw_5 (by decide +kernel) ⟨Nat.le_of_ble_eq_true rfl, Nat.le_of_ble_eq_true rfl⟩ rfl (Nat.le_of_ble_eq_true rfl) ⟨Nat.le_of_ble_eq_true rfl, Nat.le_of_ble_eq_true rfl⟩ dX8_isLoose_13 ?_
    intro r3 M3 h
    refine j_callVI X (nn := 1) (As := [.int r3]) (st := []) (ci := 8) cl_79.1 (wE_8 _ cl_79.2) rfl aw_494 aw_495 (x_X8_isOver l D y ad r3 _ _ h) aw_493 aw_496 aw_5 (by decide +kernel) ⟨Nat.le_of_ble_eq_true rfl, Nat.le_of_ble_eq_true rfl⟩ rfl (Nat.le_of_ble_eq_true rfl) ⟨Nat.le_of_ble_eq_true rfl, Nat.le_of_ble_eq_true rfl⟩ dX8_isLoose_16 ?_
    intro r4 M4 h
    refine j_if_eq X 26 (by decide) dX8_isLoose_19 (fun q_5 => ?_) (fun q_5 => ?_)
    · replace h := h.1 q_5
      refine j_iconst X (v := 0) (by decide) dX8_isLoose_26 ?_
      exact j_zret X hr hlocks (Or.inl rfl) dX8_isLoose_27 h
    · replace h := h.2 q_5
      refine j_iconst X (v := 1) (by decide) dX8_isLoose_22 ?_
      refine j_goto X 27 (by decide) dX8_isLoose_23 ?_
      exact j_zret X hr hlocks (Or.inr rfl) dX8_isLoose_27 h
theorem dX8_grindsAll_2 : decode cX8_grindsAll 2 = .ok (.iload_n 1, 1) := dk_27 (by decide +kernel)
theorem dX8_grindsAll_3 : decode cX8_grindsAll 3 = .ok (.aload_n 0, 1) := dk_42 (by decide +kernel)
theorem dX8_grindsAll_4 : decode cX8_grindsAll 4 = .ok (.getfield 7, 3) := dk_180 (by decide +kernel)
theorem dX8_grindsAll_7 : decode cX8_grindsAll 7 = .ok (.iconst 2, 1) := dk_5 (by decide +kernel)
theorem dX8_grindsAll_8 : decode cX8_grindsAll 8 = .ok (.iaload, 1) := dk_46 (by decide +kernel)
theorem dX8_grindsAll_9 : decode cX8_grindsAll 9 = .ok (.if_icmp .ge 79, 3) := dk_162 (by decide +kernel)
theorem dX8_grindsAll_88 : decode cX8_grindsAll 88 = .ok (.return_, 1) := dk_177 (by decide +kernel)
theorem dX8_grindsAll_12 : decode cX8_grindsAll 12 = .ok (.aload_n 0, 1) := dk_42 (by decide +kernel)
theorem dX8_grindsAll_13 : decode cX8_grindsAll 13 = .ok (.iload_n 1, 1) := dk_27 (by decide +kernel)
theorem dX8_grindsAll_14 : decode cX8_grindsAll 14 = .ok (.invokevirtual 159, 3) := dk_182 (by decide +kernel)
theorem dX8_grindsAll_17 : decode cX8_grindsAll 17 = .ok (.ifCond .ne 65, 3) := dk_154 (by decide +kernel)
theorem dX8_grindsAll_82 : decode cX8_grindsAll 82 = .ok (.iinc 1 1, 3) := dk_132 (by decide +kernel)
theorem dX8_grindsAll_85 : decode cX8_grindsAll 85 = .ok (.goto (-83), 3) := dk_167 (by decide +kernel)
theorem dX8_grindsAll_20 : decode cX8_grindsAll 20 = .ok (.aload_n 0, 1) := dk_42 (by decide +kernel)
theorem dX8_grindsAll_21 : decode cX8_grindsAll 21 = .ok (.iload_n 1, 1) := dk_27 (by decide +kernel)
theorem dX8_grindsAll_22 : decode cX8_grindsAll 22 = .ok (.iconst 2, 1) := dk_5 (by decide +kernel)
theorem dX8_grindsAll_23 : decode cX8_grindsAll 23 = .ok (.invokevirtual 65, 3) := dk_182 (by decide +kernel)
theorem dX8_grindsAll_26 : decode cX8_grindsAll 26 = .ok (.aload_n 0, 1) := dk_42 (by decide +kernel)
theorem dX8_grindsAll_27 : decode cX8_grindsAll 27 = .ok (.getfield 7, 3) := dk_180 (by decide +kernel)
theorem dX8_grindsAll_30 : decode cX8_grindsAll 30 = .ok (.bipush 7, 2) := dk_16 (by decide +kernel)
theorem dX8_grindsAll_32 : decode cX8_grindsAll 32 = .ok (.iaload, 1) := dk_46 (by decide +kernel)
theorem dX8_grindsAll_33 : decode cX8_grindsAll 33 = .ok (.if_icmp .ne 49, 3) := dk_160 (by decide +kernel)
theorem dX8_grindsAll_36 : decode cX8_grindsAll 36 = .ok (.aload_n 0, 1) := dk_42 (by decide +kernel)
theorem dX8_grindsAll_37 : decode cX8_grindsAll 37 = .ok (.iload_n 1, 1) := dk_27 (by decide +kernel)
theorem dX8_grindsAll_38 : decode cX8_grindsAll 38 = .ok (.iconst 3, 1) := dk_6 (by decide +kernel)
theorem dX8_grindsAll_39 : decode cX8_grindsAll 39 = .ok (.aload_n 0, 1) := dk_42 (by decide +kernel)
theorem dX8_grindsAll_40 : decode cX8_grindsAll 40 = .ok (.iload_n 1, 1) := dk_27 (by decide +kernel)
theorem dX8_grindsAll_41 : decode cX8_grindsAll 41 = .ok (.iconst 3, 1) := dk_6 (by decide +kernel)
theorem dX8_grindsAll_42 : decode cX8_grindsAll 42 = .ok (.invokevirtual 65, 3) := dk_182 (by decide +kernel)
theorem dX8_grindsAll_45 : decode cX8_grindsAll 45 = .ok (.aload_n 0, 1) := dk_42 (by decide +kernel)
theorem dX8_grindsAll_46 : decode cX8_grindsAll 46 = .ok (.iload_n 1, 1) := dk_27 (by decide +kernel)
theorem dX8_grindsAll_47 : decode cX8_grindsAll 47 = .ok (.invokevirtual 76, 3) := dk_182 (by decide +kernel)
theorem dX8_grindsAll_50 : decode cX8_grindsAll 50 = .ok (.iadd, 1) := dk_96 (by decide +kernel)
theorem dX8_grindsAll_51 : decode cX8_grindsAll 51 = .ok (.iconst 0, 1) := dk_3 (by decide +kernel)
theorem dX8_grindsAll_52 : decode cX8_grindsAll 52 = .ok (.bipush 99, 2) := dk_16 (by decide +kernel)
theorem dX8_grindsAll_54 : decode cX8_grindsAll 54 = .ok (.invokestatic 151, 3) := dk_184 (by decide +kernel)
theorem dX8_grindsAll_57 : decode cX8_grindsAll 57 = .ok (.invokevirtual 69, 3) := dk_182 (by decide +kernel)
theorem dX8_grindsAll_60 : decode cX8_grindsAll 60 = .ok (.aload_n 0, 1) := dk_42 (by decide +kernel)
theorem dX8_grindsAll_61 : decode cX8_grindsAll 61 = .ok (.getfield 7, 3) := dk_180 (by decide +kernel)
theorem dX8_grindsAll_64 : decode cX8_grindsAll 64 = .ok (.bipush 10, 2) := dk_16 (by decide +kernel)
theorem dX8_grindsAll_66 : decode cX8_grindsAll 66 = .ok (.aload_n 0, 1) := dk_42 (by decide +kernel)
theorem dX8_grindsAll_67 : decode cX8_grindsAll 67 = .ok (.getfield 7, 3) := dk_180 (by decide +kernel)
theorem dX8_grindsAll_70 : decode cX8_grindsAll 70 = .ok (.bipush 10, 2) := dk_16 (by decide +kernel)
theorem dX8_grindsAll_72 : decode cX8_grindsAll 72 = .ok (.iaload, 1) := dk_46 (by decide +kernel)
theorem dX8_grindsAll_73 : decode cX8_grindsAll 73 = .ok (.iconst 3, 1) := dk_6 (by decide +kernel)
theorem dX8_grindsAll_74 : decode cX8_grindsAll 74 = .ok (.iadd, 1) := dk_96 (by decide +kernel)
theorem dX8_grindsAll_75 : decode cX8_grindsAll 75 = .ok (.iconst 0, 1) := dk_3 (by decide +kernel)
theorem dX8_grindsAll_76 : decode cX8_grindsAll 76 = .ok (.ldc 55, 2) := dk_18 (by decide +kernel)
theorem dX8_grindsAll_78 : decode cX8_grindsAll 78 = .ok (.invokestatic 151, 3) := dk_184 (by decide +kernel)
theorem dX8_grindsAll_81 : decode cX8_grindsAll 81 = .ok (.iastore, 1) := dk_79 (by decide +kernel)
theorem dX8_grindsAll_0 : decode cX8_grindsAll 0 = .ok (.iconst 0, 1) := dk_3 (by decide +kernel)
theorem dX8_grindsAll_1 : decode cX8_grindsAll 1 = .ok (.istore_n 1, 1) := dk_60 (by decide +kernel)
set_option maxRecDepth 100000 in
set_option maxHeartbeats 8000000 in
theorem x_X8_grindsAll (l : Launch) (D : va_G) (y : wY) (ad : Nat → Nat) (M : Mem) (K : Mem → Prop) (h : wp_X8_grindsAll M K) : MV l D y ad yX8_grindsAll (Cond.code yX8_grindsAll cX8_grindsAll 2 none) 4 M [.ref (ad 79)] K := by
  refine MV_of (by decide) (Nat.le_of_ble_eq_true rfl) ?_
  intro p e s m args below meth c X hr hlocks
  have hL2 : ∀ (n : Nat) (i1 : Int32) (Mb : Mem), wp_X8_grindsAll_L2 K n i1 Mb → J p l e (rmN 4) s m args below meth c 0 0 (QV K D y ad M s args below) D y ad (va_A (PL y ad M) s.heap.size) 2 Mb 2 [(0, .ref (ad 79)), (1, .int i1)] [] := by
    intro n
    induction n with
    | zero => intro i1 Mb h; exact False.elim h
    | succ n hB2 =>
      intro i1 Mb h
      replace h : wp_X8_grindsAll_l2 K (wp_X8_grindsAll_L2 K n) i1 Mb := h
      delta wp_X8_grindsAll_l2 at h
      refine j_iload_n X 1 rfl rfl dX8_grindsAll_2 ?_
      refine j_aload_n X 0 rfl rfl dX8_grindsAll_3 ?_
      refine j_get X cl_79.1 (wE_8 _ cl_79.2) rfl awF8 0 (by decide) aw_92 rfl (v := .ref (ad 80)) rfl dX8_grindsAll_4 ?_
      refine j_iconst X (v := 2) (by decide) dX8_grindsAll_7 ?_
      refine j_iald X cl_80.1 cl_80.2 (by unfold vp_in; decide) dX8_grindsAll_8 ?_
      refine j_eqi (v := Mb 80 2) rfl ?_
      refine j_icmp_ge X 88 (by decide) dX8_grindsAll_9 (fun q_201 => ?_) (fun q_201 => ?_)
      · replace h := h.1 q_201
        exact j_vret X hr hlocks dX8_grindsAll_88 h
      · replace h := h.2 q_201
        refine j_aload_n X 0 rfl rfl dX8_grindsAll_12 ?_
        refine j_iload_n X 1 rfl rfl dX8_grindsAll_13 ?_
        refine j_callVI X (nn := 1) (As := [.int i1]) (st := []) (ci := 8) cl_79.1 (wE_8 _ cl_79.2) rfl aw_494 aw_495 (x_X8_isOver l D y ad i1 _ _ h) aw_493 aw_496 aw_5 (by decide +kernel) ⟨Nat.le_of_ble_eq_true rfl, Nat.le_of_ble_eq_true rfl⟩ rfl (Nat.le_of_ble_eq_true rfl) ⟨Nat.le_of_ble_eq_true rfl, Nat.le_of_ble_eq_true rfl⟩ dX8_grindsAll_14 ?_
        intro r202 M202 h
        refine j_if_ne X 82 (by decide) dX8_grindsAll_17 (fun q_203 => ?_) (fun q_203 => ?_)
        · replace h := h.1 q_203
          refine j_iinc X (v := (i1 + 1)) 1 [(1, .int (i1 + 1)), (0, .ref (ad 79))] rfl rfl (by decide) rfl dX8_grindsAll_82 ?_
          refine j_goto X 2 (by decide) dX8_grindsAll_85 ?_
          refine j_lv (lv1 := [(0, .ref (ad 79)), (1, .int (i1 + 1))]) [1, 0] rfl ?_
          exact hB2 _ _ h
        · replace h := h.2 q_203
          refine j_aload_n X 0 rfl rfl dX8_grindsAll_20 ?_
          refine j_iload_n X 1 rfl rfl dX8_grindsAll_21 ?_
          refine j_iconst X (v := 2) (by decide) dX8_grindsAll_22 ?_
          refine j_callVI X (nn := 2) (As := [.int i1, .int 2]) (st := []) (ci := 8) cl_79.1 (wE_8 _ cl_79.2) rfl aw_161 aw_162 (x_X8_its l D y ad i1 2 _ _ h) aw_160 aw_163 aw_5 (by decide +kernel) ⟨Nat.le_of_ble_eq_true rfl, Nat.le_of_ble_eq_true rfl⟩ rfl (Nat.le_of_ble_eq_true rfl) ⟨Nat.le_of_ble_eq_true rfl, Nat.le_of_ble_eq_true rfl⟩ dX8_grindsAll_23 ?_
          intro r204 M204 h
          refine j_aload_n X 0 rfl rfl dX8_grindsAll_26 ?_
          refine j_get X cl_79.1 (wE_8 _ cl_79.2) rfl awF8 0 (by decide) aw_92 rfl (v := .ref (ad 80)) rfl dX8_grindsAll_27 ?_
          refine j_bipush X (v := 7) (by decide) dX8_grindsAll_30 ?_
          refine j_iald X cl_80.1 cl_80.2 (by unfold vp_in; decide) dX8_grindsAll_32 ?_
          refine j_eqi (v := M204 80 7) rfl ?_
          refine j_icmp_ne X 82 (by decide) dX8_grindsAll_33 (fun q_205 => ?_) (fun q_205 => ?_)
          · replace h := h.1 q_205
            refine j_iinc X (v := (i1 + 1)) 1 [(1, .int (i1 + 1)), (0, .ref (ad 79))] rfl rfl (by decide) rfl dX8_grindsAll_82 ?_
            refine j_goto X 2 (by decide) dX8_grindsAll_85 ?_
            refine j_lv (lv1 := [(0, .ref (ad 79)), (1, .int (i1 + 1))]) [1, 0] rfl ?_
            exact hB2 _ _ h
          · replace h := h.2 q_205
            refine j_aload_n X 0 rfl rfl dX8_grindsAll_36 ?_
            refine j_iload_n X 1 rfl rfl dX8_grindsAll_37 ?_
            refine j_iconst X (v := 3) (by decide) dX8_grindsAll_38 ?_
            refine j_aload_n X 0 rfl rfl dX8_grindsAll_39 ?_
            refine j_iload_n X 1 rfl rfl dX8_grindsAll_40 ?_
            refine j_iconst X (v := 3) (by decide) dX8_grindsAll_41 ?_
            refine j_callVI X (nn := 2) (As := [.int i1, .int 3]) (st := [.int 3, .int i1, .ref (ad 79)]) (ci := 8) cl_79.1 (wE_8 _ cl_79.2) rfl aw_161 aw_162 (x_X8_its l D y ad i1 3 _ _ h) aw_160 aw_163 aw_5 (by decide +kernel) ⟨Nat.le_of_ble_eq_true rfl, Nat.le_of_ble_eq_true rfl⟩ rfl (Nat.le_of_ble_eq_true rfl) ⟨Nat.le_of_ble_eq_true rfl, Nat.le_of_ble_eq_true rfl⟩ dX8_grindsAll_42 ?_
            intro r206 M206 h
            refine j_aload_n X 0 rfl rfl dX8_grindsAll_45 ?_
            refine j_iload_n X 1 rfl rfl dX8_grindsAll_46 ?_
            refine j_callVI X (nn := 1) (As := [.int i1]) (st := [.int r206, .int 3, .int i1, .ref (ad 79)]) (ci := 8) cl_79.1 (wE_8 _ cl_79.2) rfl aw_235 aw_236 (x_X8_gains l D y ad i1 _ _ h) aw_234 aw_237 aw_5 (by decide +kernel) ⟨Nat.le_of_ble_eq_true rfl, Nat.le_of_ble_eq_true rfl⟩ rfl (Nat.le_of_ble_eq_true rfl) ⟨Nat.le_of_ble_eq_true rfl, Nat.le_of_ble_eq_true rfl⟩ dX8_grindsAll_47 ?_
            intro r207 M207 h
            refine j_iadd X dX8_grindsAll_50 ?_
            refine j_iconst X (v := 0) (by decide) dX8_grindsAll_51 ?_
            refine j_bipush X (v := 99) (by decide) dX8_grindsAll_52 ?_
            refine j_callSI X (nn := 3) (As := [.int (r206 + r207), .int 0, .int 99]) (st := [.int 3, .int i1, .ref (ad 79)]) aw_250 (x_X8_held l D y ad (r206 + r207) 0 99 _ _ h) aw_249 aw_251 aw_5 (by decide +kernel) ⟨Nat.le_of_ble_eq_true rfl, Nat.le_of_ble_eq_true rfl⟩ rfl (Nat.le_of_ble_eq_true rfl) ⟨Nat.le_of_ble_eq_true rfl, Nat.le_of_ble_eq_true rfl⟩ dX8_grindsAll_54 ?_
            intro r208 M208 h
            refine j_callVV X (nn := 3) (As := [.int i1, .int 3, .int r208]) (st := []) (ci := 8) cl_79.1 (wE_8 _ cl_79.2) rfl aw_183 aw_184 (x_X8_gets l D y ad i1 3 r208 _ _ h) aw_182 aw_185 aw_5 (by decide +kernel) ⟨Nat.le_of_ble_eq_true rfl, Nat.le_of_ble_eq_true rfl⟩ rfl (Nat.le_of_ble_eq_true rfl) ⟨Nat.le_of_ble_eq_true rfl, Nat.le_of_ble_eq_true rfl⟩ dX8_grindsAll_57 ?_
            intro M209 h
            refine j_aload_n X 0 rfl rfl dX8_grindsAll_60 ?_
            refine j_get X cl_79.1 (wE_8 _ cl_79.2) rfl awF8 0 (by decide) aw_92 rfl (v := .ref (ad 80)) rfl dX8_grindsAll_61 ?_
            refine j_bipush X (v := 10) (by decide) dX8_grindsAll_64 ?_
            refine j_aload_n X 0 rfl rfl dX8_grindsAll_66 ?_
            refine j_get X cl_79.1 (wE_8 _ cl_79.2) rfl awF8 0 (by decide) aw_92 rfl (v := .ref (ad 80)) rfl dX8_grindsAll_67 ?_
            refine j_bipush X (v := 10) (by decide) dX8_grindsAll_70 ?_
            refine j_iald X cl_80.1 cl_80.2 (by unfold vp_in; decide) dX8_grindsAll_72 ?_
            refine j_eqi (v := M209 80 10) rfl ?_
            refine j_iconst X (v := 3) (by decide) dX8_grindsAll_73 ?_
            refine j_iadd X dX8_grindsAll_74 ?_
            refine j_iconst X (v := 0) (by decide) dX8_grindsAll_75 ?_
            refine j_ldc X (v := 99999) aw_131 dX8_grindsAll_76 ?_
            refine j_callSI X (nn := 3) (As := [.int ((M209 80 10) + 3), .int 0, .int 99999]) (st := [.int 10, .ref (ad 80)]) aw_250 (x_X8_held l D y ad ((M209 80 10) + 3) 0 99999 _ _ h) aw_249 aw_251 aw_5 (by decide +kernel) ⟨Nat.le_of_ble_eq_true rfl, Nat.le_of_ble_eq_true rfl⟩ rfl (Nat.le_of_ble_eq_true rfl) ⟨Nat.le_of_ble_eq_true rfl, Nat.le_of_ble_eq_true rfl⟩ dX8_grindsAll_78 ?_
            intro r210 M210 h
            refine j_iast X cl_80.1 cl_80.2 (by unfold vp_in; decide) dX8_grindsAll_81 ?_
            refine j_eqM (M1 := (up M210 80 10 r210)) rfl ?_
            refine j_iinc X (v := (i1 + 1)) 1 [(1, .int (i1 + 1)), (0, .ref (ad 79))] rfl rfl (by decide) rfl dX8_grindsAll_82 ?_
            refine j_goto X 2 (by decide) dX8_grindsAll_85 ?_
            refine j_lv (lv1 := [(0, .ref (ad 79)), (1, .int (i1 + 1))]) [1, 0] rfl ?_
            exact hB2 _ _ h
  delta wp_X8_grindsAll at h
  refine j_lv (lv1 := [(0, .ref (ad 79))]) [0] rfl ?_
  refine j_iconst X (v := 0) (by decide) dX8_grindsAll_0 ?_
  refine j_istore_n X [(1, .int 0), (0, .ref (ad 79))] rfl (by decide) rfl dX8_grindsAll_1 ?_
  refine j_lv (lv1 := [(0, .ref (ad 79)), (1, .int 0)]) [1, 0] rfl ?_
  obtain ⟨n2, h⟩ := h
  exact hL2    n2 _ _ h
theorem dX8_goesOn_32 : decode cX8_goesOn 32 = .ok (.aload_n 0, 1) := dk_42 (by decide +kernel)
theorem dX8_goesOn_33 : decode cX8_goesOn 33 = .ok (.getfield 7, 3) := dk_180 (by decide +kernel)
theorem dX8_goesOn_36 : decode cX8_goesOn 36 = .ok (.bipush 9, 2) := dk_16 (by decide +kernel)
theorem dX8_goesOn_38 : decode cX8_goesOn 38 = .ok (.aload_n 0, 1) := dk_42 (by decide +kernel)
theorem dX8_goesOn_39 : decode cX8_goesOn 39 = .ok (.getfield 7, 3) := dk_180 (by decide +kernel)
theorem dX8_goesOn_42 : decode cX8_goesOn 42 = .ok (.bipush 9, 2) := dk_16 (by decide +kernel)
theorem dX8_goesOn_44 : decode cX8_goesOn 44 = .ok (.iaload, 1) := dk_46 (by decide +kernel)
theorem dX8_goesOn_45 : decode cX8_goesOn 45 = .ok (.aload_n 0, 1) := dk_42 (by decide +kernel)
theorem dX8_goesOn_46 : decode cX8_goesOn 46 = .ok (.iconst 1, 1) := dk_4 (by decide +kernel)
theorem dX8_goesOn_47 : decode cX8_goesOn 47 = .ok (.aload_n 0, 1) := dk_42 (by decide +kernel)
theorem dX8_goesOn_48 : decode cX8_goesOn 48 = .ok (.iload_n 1, 1) := dk_27 (by decide +kernel)
theorem dX8_goesOn_49 : decode cX8_goesOn 49 = .ok (.iconst 3, 1) := dk_6 (by decide +kernel)
theorem dX8_goesOn_50 : decode cX8_goesOn 50 = .ok (.invokevirtual 65, 3) := dk_182 (by decide +kernel)
theorem dX8_goesOn_53 : decode cX8_goesOn 53 = .ok (.aload_n 0, 1) := dk_42 (by decide +kernel)
theorem dX8_goesOn_54 : decode cX8_goesOn 54 = .ok (.iload_n 1, 1) := dk_27 (by decide +kernel)
theorem dX8_goesOn_55 : decode cX8_goesOn 55 = .ok (.bipush 6, 2) := dk_16 (by decide +kernel)
theorem dX8_goesOn_57 : decode cX8_goesOn 57 = .ok (.invokevirtual 65, 3) := dk_182 (by decide +kernel)
theorem dX8_goesOn_60 : decode cX8_goesOn 60 = .ok (.aload_n 0, 1) := dk_42 (by decide +kernel)
theorem dX8_goesOn_61 : decode cX8_goesOn 61 = .ok (.iload_n 1, 1) := dk_27 (by decide +kernel)
theorem dX8_goesOn_62 : decode cX8_goesOn 62 = .ok (.iconst 1, 1) := dk_4 (by decide +kernel)
theorem dX8_goesOn_63 : decode cX8_goesOn 63 = .ok (.invokevirtual 65, 3) := dk_182 (by decide +kernel)
theorem dX8_goesOn_66 : decode cX8_goesOn 66 = .ok (.invokevirtual 154, 3) := dk_182 (by decide +kernel)
theorem dX8_goesOn_69 : decode cX8_goesOn 69 = .ok (.iadd, 1) := dk_96 (by decide +kernel)
theorem dX8_goesOn_70 : decode cX8_goesOn 70 = .ok (.iconst 0, 1) := dk_3 (by decide +kernel)
theorem dX8_goesOn_71 : decode cX8_goesOn 71 = .ok (.ldc 55, 2) := dk_18 (by decide +kernel)
theorem dX8_goesOn_73 : decode cX8_goesOn 73 = .ok (.invokestatic 151, 3) := dk_184 (by decide +kernel)
theorem dX8_goesOn_76 : decode cX8_goesOn 76 = .ok (.iastore, 1) := dk_79 (by decide +kernel)
theorem dX8_goesOn_77 : decode cX8_goesOn 77 = .ok (.aload_n 0, 1) := dk_42 (by decide +kernel)
theorem dX8_goesOn_78 : decode cX8_goesOn 78 = .ok (.iload_n 1, 1) := dk_27 (by decide +kernel)
theorem dX8_goesOn_79 : decode cX8_goesOn 79 = .ok (.iconst 3, 1) := dk_6 (by decide +kernel)
theorem dX8_goesOn_80 : decode cX8_goesOn 80 = .ok (.aload_n 0, 1) := dk_42 (by decide +kernel)
theorem dX8_goesOn_81 : decode cX8_goesOn 81 = .ok (.iload_n 1, 1) := dk_27 (by decide +kernel)
theorem dX8_goesOn_82 : decode cX8_goesOn 82 = .ok (.iconst 3, 1) := dk_6 (by decide +kernel)
theorem dX8_goesOn_83 : decode cX8_goesOn 83 = .ok (.invokevirtual 65, 3) := dk_182 (by decide +kernel)
theorem dX8_goesOn_86 : decode cX8_goesOn 86 = .ok (.aload_n 0, 1) := dk_42 (by decide +kernel)
theorem dX8_goesOn_87 : decode cX8_goesOn 87 = .ok (.iload_n 1, 1) := dk_27 (by decide +kernel)
theorem dX8_goesOn_88 : decode cX8_goesOn 88 = .ok (.invokevirtual 82, 3) := dk_182 (by decide +kernel)
theorem dX8_goesOn_91 : decode cX8_goesOn 91 = .ok (.isub, 1) := dk_100 (by decide +kernel)
theorem dX8_goesOn_92 : decode cX8_goesOn 92 = .ok (.iconst 0, 1) := dk_3 (by decide +kernel)
theorem dX8_goesOn_93 : decode cX8_goesOn 93 = .ok (.bipush 99, 2) := dk_16 (by decide +kernel)
theorem dX8_goesOn_95 : decode cX8_goesOn 95 = .ok (.invokestatic 151, 3) := dk_184 (by decide +kernel)
theorem dX8_goesOn_98 : decode cX8_goesOn 98 = .ok (.invokevirtual 69, 3) := dk_182 (by decide +kernel)
theorem dX8_goesOn_101 : decode cX8_goesOn 101 = .ok (.aload_n 0, 1) := dk_42 (by decide +kernel)
theorem dX8_goesOn_102 : decode cX8_goesOn 102 = .ok (.iload_n 1, 1) := dk_27 (by decide +kernel)
theorem dX8_goesOn_103 : decode cX8_goesOn 103 = .ok (.bipush 6, 2) := dk_16 (by decide +kernel)
theorem dX8_goesOn_105 : decode cX8_goesOn 105 = .ok (.aload_n 0, 1) := dk_42 (by decide +kernel)
theorem dX8_goesOn_106 : decode cX8_goesOn 106 = .ok (.iload_n 1, 1) := dk_27 (by decide +kernel)
theorem dX8_goesOn_107 : decode cX8_goesOn 107 = .ok (.bipush 6, 2) := dk_16 (by decide +kernel)
theorem dX8_goesOn_109 : decode cX8_goesOn 109 = .ok (.invokevirtual 65, 3) := dk_182 (by decide +kernel)
theorem dX8_goesOn_112 : decode cX8_goesOn 112 = .ok (.iconst 1, 1) := dk_4 (by decide +kernel)
theorem dX8_goesOn_113 : decode cX8_goesOn 113 = .ok (.iadd, 1) := dk_96 (by decide +kernel)
theorem dX8_goesOn_114 : decode cX8_goesOn 114 = .ok (.iconst 0, 1) := dk_3 (by decide +kernel)
theorem dX8_goesOn_115 : decode cX8_goesOn 115 = .ok (.sipush 999, 3) := dk_17 (by decide +kernel)
theorem dX8_goesOn_118 : decode cX8_goesOn 118 = .ok (.invokestatic 151, 3) := dk_184 (by decide +kernel)
theorem dX8_goesOn_121 : decode cX8_goesOn 121 = .ok (.invokevirtual 69, 3) := dk_182 (by decide +kernel)
theorem dX8_goesOn_124 : decode cX8_goesOn 124 = .ok (.return_, 1) := dk_177 (by decide +kernel)
theorem dX8_goesOn_0 : decode cX8_goesOn 0 = .ok (.aload_n 0, 1) := dk_42 (by decide +kernel)
theorem dX8_goesOn_1 : decode cX8_goesOn 1 = .ok (.iload_n 1, 1) := dk_27 (by decide +kernel)
theorem dX8_goesOn_2 : decode cX8_goesOn 2 = .ok (.iconst 3, 1) := dk_6 (by decide +kernel)
theorem dX8_goesOn_3 : decode cX8_goesOn 3 = .ok (.invokevirtual 65, 3) := dk_182 (by decide +kernel)
theorem dX8_goesOn_6 : decode cX8_goesOn 6 = .ok (.aload_n 0, 1) := dk_42 (by decide +kernel)
theorem dX8_goesOn_7 : decode cX8_goesOn 7 = .ok (.iload_n 1, 1) := dk_27 (by decide +kernel)
theorem dX8_goesOn_8 : decode cX8_goesOn 8 = .ok (.invokevirtual 79, 3) := dk_182 (by decide +kernel)
theorem dX8_goesOn_11 : decode cX8_goesOn 11 = .ok (.if_icmp .lt 21, 3) := dk_161 (by decide +kernel)
theorem dX8_goesOn_14 : decode cX8_goesOn 14 = .ok (.aload_n 0, 1) := dk_42 (by decide +kernel)
theorem dX8_goesOn_15 : decode cX8_goesOn 15 = .ok (.iload_n 1, 1) := dk_27 (by decide +kernel)
theorem dX8_goesOn_16 : decode cX8_goesOn 16 = .ok (.invokevirtual 162, 3) := dk_182 (by decide +kernel)
theorem dX8_goesOn_19 : decode cX8_goesOn 19 = .ok (.ifCond .eq 13, 3) := dk_153 (by decide +kernel)
theorem dX8_goesOn_22 : decode cX8_goesOn 22 = .ok (.aload_n 0, 1) := dk_42 (by decide +kernel)
theorem dX8_goesOn_23 : decode cX8_goesOn 23 = .ok (.iload_n 1, 1) := dk_27 (by decide +kernel)
theorem dX8_goesOn_24 : decode cX8_goesOn 24 = .ok (.iconst 5, 1) := dk_8 (by decide +kernel)
theorem dX8_goesOn_25 : decode cX8_goesOn 25 = .ok (.iconst 1, 1) := dk_4 (by decide +kernel)
theorem dX8_goesOn_26 : decode cX8_goesOn 26 = .ok (.invokevirtual 69, 3) := dk_182 (by decide +kernel)
theorem dX8_goesOn_29 : decode cX8_goesOn 29 = .ok (.goto 95, 3) := dk_167 (by decide +kernel)
set_option maxRecDepth 100000 in
set_option maxHeartbeats 8000000 in
theorem x_X8_goesOn (l : Launch) (D : va_G) (y : wY) (ad : Nat → Nat) (i1 : Int32) (M : Mem) (K : Mem → Prop) (h : wp_X8_goesOn i1 M K) : MV l D y ad yX8_goesOn (Cond.code yX8_goesOn cX8_goesOn 2 none) 3 M [.ref (ad 79), .int i1] K := by
  refine MV_of (by decide) (Nat.le_of_ble_eq_true rfl) ?_
  intro p e s m args below meth c X hr hlocks
  have hb32 : ∀ (i1 : Int32) (Mb : Mem), wp_X8_goesOn_b32 K i1 Mb → J p l e (rmN 3) s m args below meth c 0 0 (QV K D y ad M s args below) D y ad (va_A (PL y ad M) s.heap.size) 2 Mb 32 [(0, .ref (ad 79)), (1, .int i1)] [] := by
    intro i1 Mb h
    delta wp_X8_goesOn_b32 at h
    refine j_aload_n X 0 rfl rfl dX8_goesOn_32 ?_
    refine j_get X cl_79.1 (wE_8 _ cl_79.2) rfl awF8 0 (by decide) aw_92 rfl (v := .ref (ad 80)) rfl dX8_goesOn_33 ?_
    refine j_bipush X (v := 9) (by decide) dX8_goesOn_36 ?_
    refine j_aload_n X 0 rfl rfl dX8_goesOn_38 ?_
    refine j_get X cl_79.1 (wE_8 _ cl_79.2) rfl awF8 0 (by decide) aw_92 rfl (v := .ref (ad 80)) rfl dX8_goesOn_39 ?_
    refine j_bipush X (v := 9) (by decide) dX8_goesOn_42 ?_
    refine j_iald X cl_80.1 cl_80.2 (by unfold vp_in; decide) dX8_goesOn_44 ?_
    refine j_eqi (v := Mb 80 9) rfl ?_
    refine j_aload_n X 0 rfl rfl dX8_goesOn_45 ?_
    refine j_iconst X (v := 1) (by decide) dX8_goesOn_46 ?_
    refine j_aload_n X 0 rfl rfl dX8_goesOn_47 ?_
    refine j_iload_n X 1 rfl rfl dX8_goesOn_48 ?_
    refine j_iconst X (v := 3) (by decide) dX8_goesOn_49 ?_
    refine j_callVI X (nn := 2) (As := [.int i1, .int 3]) (st := [.int 1, .ref (ad 79), .int (Mb 80 9), .int 9, .ref (ad 80)]) (ci := 8) cl_79.1 (wE_8 _ cl_79.2) rfl aw_161 aw_162 (x_X8_its l D y ad i1 3 _ _ h) aw_160 aw_163 aw_5 (by decide +kernel) ⟨Nat.le_of_ble_eq_true rfl, Nat.le_of_ble_eq_true rfl⟩ rfl (Nat.le_of_ble_eq_true rfl) ⟨Nat.le_of_ble_eq_true rfl, Nat.le_of_ble_eq_true rfl⟩ dX8_goesOn_50 ?_
    intro r3201 M3201 h
    refine j_aload_n X 0 rfl rfl dX8_goesOn_53 ?_
    refine j_iload_n X 1 rfl rfl dX8_goesOn_54 ?_
    refine j_bipush X (v := 6) (by decide) dX8_goesOn_55 ?_
    refine j_callVI X (nn := 2) (As := [.int i1, .int 6]) (st := [.int r3201, .int 1, .ref (ad 79), .int (Mb 80 9), .int 9, .ref (ad 80)]) (ci := 8) cl_79.1 (wE_8 _ cl_79.2) rfl aw_161 aw_162 (x_X8_its l D y ad i1 6 _ _ h) aw_160 aw_163 aw_5 (by decide +kernel) ⟨Nat.le_of_ble_eq_true rfl, Nat.le_of_ble_eq_true rfl⟩ rfl (Nat.le_of_ble_eq_true rfl) ⟨Nat.le_of_ble_eq_true rfl, Nat.le_of_ble_eq_true rfl⟩ dX8_goesOn_57 ?_
    intro r3202 M3202 h
    refine j_aload_n X 0 rfl rfl dX8_goesOn_60 ?_
    refine j_iload_n X 1 rfl rfl dX8_goesOn_61 ?_
    refine j_iconst X (v := 1) (by decide) dX8_goesOn_62 ?_
    refine j_callVI X (nn := 2) (As := [.int i1, .int 1]) (st := [.int r3202, .int r3201, .int 1, .ref (ad 79), .int (Mb 80 9), .int 9, .ref (ad 80)]) (ci := 8) cl_79.1 (wE_8 _ cl_79.2) rfl aw_161 aw_162 (x_X8_its l D y ad i1 1 _ _ h) aw_160 aw_163 aw_5 (by decide +kernel) ⟨Nat.le_of_ble_eq_true rfl, Nat.le_of_ble_eq_true rfl⟩ rfl (Nat.le_of_ble_eq_true rfl) ⟨Nat.le_of_ble_eq_true rfl, Nat.le_of_ble_eq_true rfl⟩ dX8_goesOn_63 ?_
    intro r3203 M3203 h
    refine j_callVI X (nn := 4) (As := [.int 1, .int r3201, .int r3202, .int r3203]) (st := [.int (Mb 80 9), .int 9, .ref (ad 80)]) (ci := 8) cl_79.1 (wE_8 _ cl_79.2) rfl aw_239 aw_240 (x_X8_lawOf l D y ad 1 r3201 r3202 r3203 _ _ h) aw_238 aw_241 aw_5 (by decide +kernel) ⟨Nat.le_of_ble_eq_true rfl, Nat.le_of_ble_eq_true rfl⟩ rfl (Nat.le_of_ble_eq_true rfl) ⟨Nat.le_of_ble_eq_true rfl, Nat.le_of_ble_eq_true rfl⟩ dX8_goesOn_66 ?_
    intro r3204 M3204 h
    refine j_iadd X dX8_goesOn_69 ?_
    refine j_iconst X (v := 0) (by decide) dX8_goesOn_70 ?_
    refine j_ldc X (v := 99999) aw_131 dX8_goesOn_71 ?_
    refine j_callSI X (nn := 3) (As := [.int ((Mb 80 9) + r3204), .int 0, .int 99999]) (st := [.int 9, .ref (ad 80)]) aw_250 (x_X8_held l D y ad ((Mb 80 9) + r3204) 0 99999 _ _ h) aw_249 aw_251 aw_5 (by decide +kernel) ⟨Nat.le_of_ble_eq_true rfl, Nat.le_of_ble_eq_true rfl⟩ rfl (Nat.le_of_ble_eq_true rfl) ⟨Nat.le_of_ble_eq_true rfl, Nat.le_of_ble_eq_true rfl⟩ dX8_goesOn_73 ?_
    intro r3205 M3205 h
    refine j_iast X cl_80.1 cl_80.2 (by unfold vp_in; decide) dX8_goesOn_76 ?_
    refine j_eqM (M1 := (up M3205 80 9 r3205)) rfl ?_
    refine j_aload_n X 0 rfl rfl dX8_goesOn_77 ?_
    refine j_iload_n X 1 rfl rfl dX8_goesOn_78 ?_
    refine j_iconst X (v := 3) (by decide) dX8_goesOn_79 ?_
    refine j_aload_n X 0 rfl rfl dX8_goesOn_80 ?_
    refine j_iload_n X 1 rfl rfl dX8_goesOn_81 ?_
    refine j_iconst X (v := 3) (by decide) dX8_goesOn_82 ?_
    refine j_callVI X (nn := 2) (As := [.int i1, .int 3]) (st := [.int 3, .int i1, .ref (ad 79)]) (ci := 8) cl_79.1 (wE_8 _ cl_79.2) rfl aw_161 aw_162 (x_X8_its l D y ad i1 3 _ _ h) aw_160 aw_163 aw_5 (by decide +kernel) ⟨Nat.le_of_ble_eq_true rfl, Nat.le_of_ble_eq_true rfl⟩ rfl (Nat.le_of_ble_eq_true rfl) ⟨Nat.le_of_ble_eq_true rfl, Nat.le_of_ble_eq_true rfl⟩ dX8_goesOn_83 ?_
    intro r3206 M3206 h
    refine j_aload_n X 0 rfl rfl dX8_goesOn_86 ?_
    refine j_iload_n X 1 rfl rfl dX8_goesOn_87 ?_
    refine j_callVI X (nn := 1) (As := [.int i1]) (st := [.int r3206, .int 3, .int i1, .ref (ad 79)]) (ci := 8) cl_79.1 (wE_8 _ cl_79.2) rfl aw_257 aw_258 (x_X8_dulls l D y ad i1 _ _ h) aw_256 aw_259 aw_5 (by decide +kernel) ⟨Nat.le_of_ble_eq_true rfl, Nat.le_of_ble_eq_true rfl⟩ rfl (Nat.le_of_ble_eq_true rfl) ⟨Nat.le_of_ble_eq_true rfl, Nat.le_of_ble_eq_true rfl⟩ dX8_goesOn_88 ?_
    intro r3207 M3207 h
    refine j_isub X dX8_goesOn_91 ?_
    refine j_iconst X (v := 0) (by decide) dX8_goesOn_92 ?_
    refine j_bipush X (v := 99) (by decide) dX8_goesOn_93 ?_
    refine j_callSI X (nn := 3) (As := [.int (r3206 - r3207), .int 0, .int 99]) (st := [.int 3, .int i1, .ref (ad 79)]) aw_250 (x_X8_held l D y ad (r3206 - r3207) 0 99 _ _ h) aw_249 aw_251 aw_5 (by decide +kernel) ⟨Nat.le_of_ble_eq_true rfl, Nat.le_of_ble_eq_true rfl⟩ rfl (Nat.le_of_ble_eq_true rfl) ⟨Nat.le_of_ble_eq_true rfl, Nat.le_of_ble_eq_true rfl⟩ dX8_goesOn_95 ?_
    intro r3208 M3208 h
    refine j_callVV X (nn := 3) (As := [.int i1, .int 3, .int r3208]) (st := []) (ci := 8) cl_79.1 (wE_8 _ cl_79.2) rfl aw_183 aw_184 (x_X8_gets l D y ad i1 3 r3208 _ _ h) aw_182 aw_185 aw_5 (by decide +kernel) ⟨Nat.le_of_ble_eq_true rfl, Nat.le_of_ble_eq_true rfl⟩ rfl (Nat.le_of_ble_eq_true rfl) ⟨Nat.le_of_ble_eq_true rfl, Nat.le_of_ble_eq_true rfl⟩ dX8_goesOn_98 ?_
    intro M3209 h
    refine j_aload_n X 0 rfl rfl dX8_goesOn_101 ?_
    refine j_iload_n X 1 rfl rfl dX8_goesOn_102 ?_
    refine j_bipush X (v := 6) (by decide) dX8_goesOn_103 ?_
    refine j_aload_n X 0 rfl rfl dX8_goesOn_105 ?_
    refine j_iload_n X 1 rfl rfl dX8_goesOn_106 ?_
    refine j_bipush X (v := 6) (by decide) dX8_goesOn_107 ?_
    refine j_callVI X (nn := 2) (As := [.int i1, .int 6]) (st := [.int 6, .int i1, .ref (ad 79)]) (ci := 8) cl_79.1 (wE_8 _ cl_79.2) rfl aw_161 aw_162 (x_X8_its l D y ad i1 6 _ _ h) aw_160 aw_163 aw_5 (by decide +kernel) ⟨Nat.le_of_ble_eq_true rfl, Nat.le_of_ble_eq_true rfl⟩ rfl (Nat.le_of_ble_eq_true rfl) ⟨Nat.le_of_ble_eq_true rfl, Nat.le_of_ble_eq_true rfl⟩ dX8_goesOn_109 ?_
    intro r3210 M3210 h
    refine j_iconst X (v := 1) (by decide) dX8_goesOn_112 ?_
    refine j_iadd X dX8_goesOn_113 ?_
    refine j_iconst X (v := 0) (by decide) dX8_goesOn_114 ?_
    refine j_sipush X (v := 999) (by decide) dX8_goesOn_115 ?_
    refine j_callSI X (nn := 3) (As := [.int (r3210 + 1), .int 0, .int 999]) (st := [.int 6, .int i1, .ref (ad 79)]) aw_250 (x_X8_held l D y ad (r3210 + 1) 0 999 _ _ h) aw_249 aw_251 aw_5 (by decide +kernel) ⟨Nat.le_of_ble_eq_true rfl, Nat.le_of_ble_eq_true rfl⟩ rfl (Nat.le_of_ble_eq_true rfl) ⟨Nat.le_of_ble_eq_true rfl, Nat.le_of_ble_eq_true rfl⟩ dX8_goesOn_118 ?_
    intro r3211 M3211 h
    refine j_callVV X (nn := 3) (As := [.int i1, .int 6, .int r3211]) (st := []) (ci := 8) cl_79.1 (wE_8 _ cl_79.2) rfl aw_183 aw_184 (x_X8_gets l D y ad i1 6 r3211 _ _ h) aw_182 aw_185 aw_5 (by decide +kernel) ⟨Nat.le_of_ble_eq_true rfl, Nat.le_of_ble_eq_true rfl⟩ rfl (Nat.le_of_ble_eq_true rfl) ⟨Nat.le_of_ble_eq_true rfl, Nat.le_of_ble_eq_true rfl⟩ dX8_goesOn_121 ?_
    intro M3212 h
    exact j_vret X hr hlocks dX8_goesOn_124 h
  delta wp_X8_goesOn at h
  refine j_lv (lv1 := [(0, .ref (ad 79)), (1, .int i1)]) [0, 1] rfl ?_
  refine j_aload_n X 0 rfl rfl dX8_goesOn_0 ?_
  refine j_iload_n X 1 rfl rfl dX8_goesOn_1 ?_
  refine j_iconst X (v := 3) (by decide) dX8_goesOn_2 ?_
  refine j_callVI X (nn := 2) (As := [.int i1, .int 3]) (st := []) (ci := 8) cl_79.1 (wE_8 _ cl_79.2) rfl aw_161 aw_162 (x_X8_its l D y ad i1 3 _ _ h) aw_160 aw_163 aw_5 (by decide +kernel) ⟨Nat.le_of_ble_eq_true rfl, Nat.le_of_ble_eq_true rfl⟩ rfl (Nat.le_of_ble_eq_true rfl) ⟨Nat.le_of_ble_eq_true rfl, Nat.le_of_ble_eq_true rfl⟩ dX8_goesOn_3 ?_
  intro r1 M1 h
  refine j_aload_n X 0 rfl rfl dX8_goesOn_6 ?_
  refine j_iload_n X 1 rfl rfl dX8_goesOn_7 ?_
  refine j_callVI X (nn := 1) (As := [.int i1]) (st := [.int r1]) (ci := 8) cl_79.1 (wE_8 _ cl_79.2) rfl aw_253 aw_254 (x_X8_needs l D y ad i1 _ _ h) aw_252 aw_255 aw_5 (by decide +kernel) ⟨Nat.le_of_ble_eq_true rfl, Nat.le_of_ble_eq_true rfl⟩ rfl (Nat.le_of_ble_eq_true rfl) ⟨Nat.le_of_ble_eq_true rfl, Nat.le_of_ble_eq_true rfl⟩ dX8_goesOn_8 ?_
  intro r2 M2 h
  refine j_icmp_lt X 32 (by decide) dX8_goesOn_11 (fun q_3 => ?_) (fun q_3 => ?_)
  · replace h := h.1 q_3
    refine j_lv (lv1 := [(0, .ref (ad 79)), (1, .int i1)]) [0, 1] rfl ?_
    exact hb32 _  _ h
  · replace h := h.2 q_3
    refine j_aload_n X 0 rfl rfl dX8_goesOn_14 ?_
    refine j_iload_n X 1 rfl rfl dX8_goesOn_15 ?_
    refine j_callVI X (nn := 1) (As := [.int i1]) (st := []) (ci := 8) cl_79.1 (wE_8 _ cl_79.2) rfl aw_502 aw_503 (x_X8_isLoose l D y ad i1 _ _ h) aw_501 aw_504 aw_5 (by decide +kernel) ⟨Nat.le_of_ble_eq_true rfl, Nat.le_of_ble_eq_true rfl⟩ rfl (Nat.le_of_ble_eq_true rfl) ⟨Nat.le_of_ble_eq_true rfl, Nat.le_of_ble_eq_true rfl⟩ dX8_goesOn_16 ?_
    intro r4 M4 h
    refine j_if_eq X 32 (by decide) dX8_goesOn_19 (fun q_5 => ?_) (fun q_5 => ?_)
    · replace h := h.1 q_5
      refine j_lv (lv1 := [(0, .ref (ad 79)), (1, .int i1)]) [0, 1] rfl ?_
      exact hb32 _  _ h
    · replace h := h.2 q_5
      refine j_aload_n X 0 rfl rfl dX8_goesOn_22 ?_
      refine j_iload_n X 1 rfl rfl dX8_goesOn_23 ?_
      refine j_iconst X (v := 5) (by decide) dX8_goesOn_24 ?_
      refine j_iconst X (v := 1) (by decide) dX8_goesOn_25 ?_
      refine j_callVV X (nn := 3) (As := [.int i1, .int 5, .int 1]) (st := []) (ci := 8) cl_79.1 (wE_8 _ cl_79.2) rfl aw_183 aw_184 (x_X8_gets l D y ad i1 5 1 _ _ h) aw_182 aw_185 aw_5 (by decide +kernel) ⟨Nat.le_of_ble_eq_true rfl, Nat.le_of_ble_eq_true rfl⟩ rfl (Nat.le_of_ble_eq_true rfl) ⟨Nat.le_of_ble_eq_true rfl, Nat.le_of_ble_eq_true rfl⟩ dX8_goesOn_26 ?_
      intro M6 h
      refine j_goto X 124 (by decide) dX8_goesOn_29 ?_
      exact j_vret X hr hlocks dX8_goesOn_124 h
theorem dX8_oneDay_10 : decode cX8_oneDay 10 = .ok (.iload_n 2, 1) := dk_28 (by decide +kernel)
theorem dX8_oneDay_11 : decode cX8_oneDay 11 = .ok (.aload_n 0, 1) := dk_42 (by decide +kernel)
theorem dX8_oneDay_12 : decode cX8_oneDay 12 = .ok (.getfield 7, 3) := dk_180 (by decide +kernel)
theorem dX8_oneDay_15 : decode cX8_oneDay 15 = .ok (.iconst 2, 1) := dk_5 (by decide +kernel)
theorem dX8_oneDay_16 : decode cX8_oneDay 16 = .ok (.iaload, 1) := dk_46 (by decide +kernel)
theorem dX8_oneDay_17 : decode cX8_oneDay 17 = .ok (.if_icmp .ge 22, 3) := dk_162 (by decide +kernel)
theorem dX8_oneDay_39 : decode cX8_oneDay 39 = .ok (.aload_n 0, 1) := dk_42 (by decide +kernel)
theorem dX8_oneDay_40 : decode cX8_oneDay 40 = .ok (.getfield 7, 3) := dk_180 (by decide +kernel)
theorem dX8_oneDay_43 : decode cX8_oneDay 43 = .ok (.bipush 7, 2) := dk_16 (by decide +kernel)
theorem dX8_oneDay_45 : decode cX8_oneDay 45 = .ok (.aload_n 0, 1) := dk_42 (by decide +kernel)
theorem dX8_oneDay_46 : decode cX8_oneDay 46 = .ok (.getfield 7, 3) := dk_180 (by decide +kernel)
theorem dX8_oneDay_49 : decode cX8_oneDay 49 = .ok (.bipush 7, 2) := dk_16 (by decide +kernel)
theorem dX8_oneDay_51 : decode cX8_oneDay 51 = .ok (.iaload, 1) := dk_46 (by decide +kernel)
theorem dX8_oneDay_52 : decode cX8_oneDay 52 = .ok (.aload_n 0, 1) := dk_42 (by decide +kernel)
theorem dX8_oneDay_53 : decode cX8_oneDay 53 = .ok (.getfield 7, 3) := dk_180 (by decide +kernel)
theorem dX8_oneDay_56 : decode cX8_oneDay 56 = .ok (.bipush 8, 2) := dk_16 (by decide +kernel)
theorem dX8_oneDay_58 : decode cX8_oneDay 58 = .ok (.iaload, 1) := dk_46 (by decide +kernel)
theorem dX8_oneDay_59 : decode cX8_oneDay 59 = .ok (.iadd, 1) := dk_96 (by decide +kernel)
theorem dX8_oneDay_60 : decode cX8_oneDay 60 = .ok (.bipush 10, 2) := dk_16 (by decide +kernel)
theorem dX8_oneDay_62 : decode cX8_oneDay 62 = .ok (.irem, 1) := dk_112 (by decide +kernel)
theorem dX8_oneDay_63 : decode cX8_oneDay 63 = .ok (.iastore, 1) := dk_79 (by decide +kernel)
theorem dX8_oneDay_64 : decode cX8_oneDay 64 = .ok (.aload_n 0, 1) := dk_42 (by decide +kernel)
theorem dX8_oneDay_65 : decode cX8_oneDay 65 = .ok (.getfield 7, 3) := dk_180 (by decide +kernel)
theorem dX8_oneDay_68 : decode cX8_oneDay 68 = .ok (.iconst 0, 1) := dk_3 (by decide +kernel)
theorem dX8_oneDay_69 : decode cX8_oneDay 69 = .ok (.dup2, 1) := dk_92 (by decide +kernel)
theorem dX8_oneDay_70 : decode cX8_oneDay 70 = .ok (.iaload, 1) := dk_46 (by decide +kernel)
theorem dX8_oneDay_71 : decode cX8_oneDay 71 = .ok (.iconst 1, 1) := dk_4 (by decide +kernel)
theorem dX8_oneDay_72 : decode cX8_oneDay 72 = .ok (.iadd, 1) := dk_96 (by decide +kernel)
theorem dX8_oneDay_73 : decode cX8_oneDay 73 = .ok (.iastore, 1) := dk_79 (by decide +kernel)
theorem dX8_oneDay_74 : decode cX8_oneDay 74 = .ok (.return_, 1) := dk_177 (by decide +kernel)
theorem dX8_oneDay_20 : decode cX8_oneDay 20 = .ok (.aload_n 0, 1) := dk_42 (by decide +kernel)
theorem dX8_oneDay_21 : decode cX8_oneDay 21 = .ok (.iload_n 2, 1) := dk_28 (by decide +kernel)
theorem dX8_oneDay_22 : decode cX8_oneDay 22 = .ok (.invokevirtual 159, 3) := dk_182 (by decide +kernel)
theorem dX8_oneDay_25 : decode cX8_oneDay 25 = .ok (.ifCond .ne 8, 3) := dk_154 (by decide +kernel)
theorem dX8_oneDay_33 : decode cX8_oneDay 33 = .ok (.iinc 2 1, 3) := dk_132 (by decide +kernel)
theorem dX8_oneDay_36 : decode cX8_oneDay 36 = .ok (.goto (-26), 3) := dk_167 (by decide +kernel)
theorem dX8_oneDay_28 : decode cX8_oneDay 28 = .ok (.aload_n 0, 1) := dk_42 (by decide +kernel)
theorem dX8_oneDay_29 : decode cX8_oneDay 29 = .ok (.iload_n 2, 1) := dk_28 (by decide +kernel)
theorem dX8_oneDay_30 : decode cX8_oneDay 30 = .ok (.invokevirtual 168, 3) := dk_182 (by decide +kernel)
theorem dX8_oneDay_0 : decode cX8_oneDay 0 = .ok (.iload_n 1, 1) := dk_27 (by decide +kernel)
theorem dX8_oneDay_1 : decode cX8_oneDay 1 = .ok (.ifCond .eq 7, 3) := dk_153 (by decide +kernel)
theorem dX8_oneDay_8 : decode cX8_oneDay 8 = .ok (.iconst 0, 1) := dk_3 (by decide +kernel)
theorem dX8_oneDay_9 : decode cX8_oneDay 9 = .ok (.istore_n 2, 1) := dk_61 (by decide +kernel)
theorem dX8_oneDay_4 : decode cX8_oneDay 4 = .ok (.aload_n 0, 1) := dk_42 (by decide +kernel)
theorem dX8_oneDay_5 : decode cX8_oneDay 5 = .ok (.invokevirtual 165, 3) := dk_182 (by decide +kernel)
set_option maxRecDepth 100000 in
set_option maxHeartbeats 8000000 in
theorem x_X8_oneDay (l : Launch) (D : va_G) (y : wY) (ad : Nat → Nat) (i1 : Int32) (M : Mem) (K : Mem → Prop) (h : wp_X8_oneDay i1 M K) : MV l D y ad yX8_oneDay (Cond.code yX8_oneDay cX8_oneDay 3 none) 5 M [.ref (ad 79), .int i1] K := by
  refine MV_of (by decide) (Nat.le_of_ble_eq_true rfl) ?_
  intro p e s m args below meth c X hr hlocks
  have hL10 : ∀ (n : Nat) (i2 : Int32) (Mb : Mem), wp_X8_oneDay_L10 K n i2 Mb → J p l e (rmN 5) s m args below meth c 0 0 (QV K D y ad M s args below) D y ad (va_A (PL y ad M) s.heap.size) 3 Mb 10 [(0, .ref (ad 79)), (2, .int i2)] [] := by
    intro n
    induction n with
    | zero => intro i2 Mb h; exact False.elim h
    | succ n hB10 =>
      intro i2 Mb h
      replace h : wp_X8_oneDay_l10 K (wp_X8_oneDay_L10 K n) i2 Mb := h
      delta wp_X8_oneDay_l10 at h
      refine j_iload_n X 1 rfl rfl dX8_oneDay_10 ?_
      refine j_aload_n X 0 rfl rfl dX8_oneDay_11 ?_
      refine j_get X cl_79.1 (wE_8 _ cl_79.2) rfl awF8 0 (by decide) aw_92 rfl (v := .ref (ad 80)) rfl dX8_oneDay_12 ?_
      refine j_iconst X (v := 2) (by decide) dX8_oneDay_15 ?_
      refine j_iald X cl_80.1 cl_80.2 (by unfold vp_in; decide) dX8_oneDay_16 ?_
      refine j_eqi (v := Mb 80 2) rfl ?_
      refine j_icmp_ge X 39 (by decide) dX8_oneDay_17 (fun q_1001 => ?_) (fun q_1001 => ?_)
      · replace h := h.1 q_1001
        refine j_aload_n X 0 rfl rfl dX8_oneDay_39 ?_
        refine j_get X cl_79.1 (wE_8 _ cl_79.2) rfl awF8 0 (by decide) aw_92 rfl (v := .ref (ad 80)) rfl dX8_oneDay_40 ?_
        refine j_bipush X (v := 7) (by decide) dX8_oneDay_43 ?_
        refine j_aload_n X 0 rfl rfl dX8_oneDay_45 ?_
        refine j_get X cl_79.1 (wE_8 _ cl_79.2) rfl awF8 0 (by decide) aw_92 rfl (v := .ref (ad 80)) rfl dX8_oneDay_46 ?_
        refine j_bipush X (v := 7) (by decide) dX8_oneDay_49 ?_
        refine j_iald X cl_80.1 cl_80.2 (by unfold vp_in; decide) dX8_oneDay_51 ?_
        refine j_eqi (v := Mb 80 7) rfl ?_
        refine j_aload_n X 0 rfl rfl dX8_oneDay_52 ?_
        refine j_get X cl_79.1 (wE_8 _ cl_79.2) rfl awF8 0 (by decide) aw_92 rfl (v := .ref (ad 80)) rfl dX8_oneDay_53 ?_
        refine j_bipush X (v := 8) (by decide) dX8_oneDay_56 ?_
        refine j_iald X cl_80.1 cl_80.2 (by unfold vp_in; decide) dX8_oneDay_58 ?_
        refine j_eqi (v := Mb 80 8) rfl ?_
        refine j_iadd X dX8_oneDay_59 ?_
        refine j_bipush X (v := 10) (by decide) dX8_oneDay_60 ?_
        refine j_irem X (by decide) dX8_oneDay_62 ?_
        refine j_iast X cl_80.1 cl_80.2 (by unfold vp_in; decide) dX8_oneDay_63 ?_
        refine j_eqM (M1 := (up Mb 80 7 (((Mb 80 7) + (Mb 80 8)) - ((Mb 80 7) + (Mb 80 8)) / 10 * 10))) rfl ?_
        refine j_aload_n X 0 rfl rfl dX8_oneDay_64 ?_
        refine j_get X cl_79.1 (wE_8 _ cl_79.2) rfl awF8 0 (by decide) aw_92 rfl (v := .ref (ad 80)) rfl dX8_oneDay_65 ?_
        refine j_iconst X (v := 0) (by decide) dX8_oneDay_68 ?_
        refine j_dup2 X rfl rfl dX8_oneDay_69 ?_
        refine j_iald X cl_80.1 cl_80.2 (by unfold vp_in; decide) dX8_oneDay_70 ?_
        refine j_eqi (v := (up Mb 80 7 (((Mb 80 7) + (Mb 80 8)) - ((Mb 80 7) + (Mb 80 8)) / 10 * 10)) 80 0) rfl ?_
        refine j_iconst X (v := 1) (by decide) dX8_oneDay_71 ?_
        refine j_iadd X dX8_oneDay_72 ?_
        refine j_iast X cl_80.1 cl_80.2 (by unfold vp_in; decide) dX8_oneDay_73 ?_
        refine j_eqM (M1 := (up (up Mb 80 7 (((Mb 80 7) + (Mb 80 8)) - ((Mb 80 7) + (Mb 80 8)) / 10 * 10)) 80 0 (((up Mb 80 7 (((Mb 80 7) + (Mb 80 8)) - ((Mb 80 7) + (Mb 80 8)) / 10 * 10)) 80 0) + 1))) rfl ?_
        refine j_topM (fun Mg_1002 eMg_1002 => ?_)
        replace h := h Mg_1002 eMg_1002
        exact j_vret X hr hlocks dX8_oneDay_74 h
      · replace h := h.2 q_1001
        refine j_aload_n X 0 rfl rfl dX8_oneDay_20 ?_
        refine j_iload_n X 1 rfl rfl dX8_oneDay_21 ?_
        refine j_callVI X (nn := 1) (As := [.int i2]) (st := []) (ci := 8) cl_79.1 (wE_8 _ cl_79.2) rfl aw_494 aw_495 (x_X8_isOver l D y ad i2 _ _ h) aw_493 aw_496 aw_5 (by decide +kernel) ⟨Nat.le_of_ble_eq_true rfl, Nat.le_of_ble_eq_true rfl⟩ rfl (Nat.le_of_ble_eq_true rfl) ⟨Nat.le_of_ble_eq_true rfl, Nat.le_of_ble_eq_true rfl⟩ dX8_oneDay_22 ?_
        intro r1003 M1003 h
        refine j_if_ne X 33 (by decide) dX8_oneDay_25 (fun q_1004 => ?_) (fun q_1004 => ?_)
        · replace h := h.1 q_1004
          refine j_iinc X (v := (i2 + 1)) 1 [(2, .int (i2 + 1)), (0, .ref (ad 79))] rfl rfl (by decide) rfl dX8_oneDay_33 ?_
          refine j_goto X 10 (by decide) dX8_oneDay_36 ?_
          refine j_lv (lv1 := [(0, .ref (ad 79)), (2, .int (i2 + 1))]) [1, 0] rfl ?_
          exact hB10 _ _ h
        · replace h := h.2 q_1004
          refine j_aload_n X 0 rfl rfl dX8_oneDay_28 ?_
          refine j_iload_n X 1 rfl rfl dX8_oneDay_29 ?_
          refine j_callVV X (nn := 1) (As := [.int i2]) (st := []) (ci := 8) cl_79.1 (wE_8 _ cl_79.2) rfl aw_498 aw_499 (x_X8_goesOn l D y ad i2 _ _ h) aw_497 aw_500 aw_5 (by decide +kernel) ⟨Nat.le_of_ble_eq_true rfl, Nat.le_of_ble_eq_true rfl⟩ rfl (Nat.le_of_ble_eq_true rfl) ⟨Nat.le_of_ble_eq_true rfl, Nat.le_of_ble_eq_true rfl⟩ dX8_oneDay_30 ?_
          intro M1005 h
          refine j_iinc X (v := (i2 + 1)) 1 [(2, .int (i2 + 1)), (0, .ref (ad 79))] rfl rfl (by decide) rfl dX8_oneDay_33 ?_
          refine j_goto X 10 (by decide) dX8_oneDay_36 ?_
          refine j_lv (lv1 := [(0, .ref (ad 79)), (2, .int (i2 + 1))]) [1, 0] rfl ?_
          exact hB10 _ _ h
  delta wp_X8_oneDay at h
  refine j_lv (lv1 := [(0, .ref (ad 79)), (1, .int i1)]) [0, 1] rfl ?_
  refine j_iload_n X 1 rfl rfl dX8_oneDay_0 ?_
  refine j_if_eq X 8 (by decide) dX8_oneDay_1 (fun q_1 => ?_) (fun q_1 => ?_)
  · replace h := h.1 q_1
    refine j_iconst X (v := 0) (by decide) dX8_oneDay_8 ?_
    refine j_istore_n X [(2, .int 0), (0, .ref (ad 79)), (1, .int i1)] rfl (by decide) rfl dX8_oneDay_9 ?_
    refine j_lv (lv1 := [(0, .ref (ad 79)), (2, .int 0)]) [1, 0] rfl ?_
    obtain ⟨n10, h⟩ := h
    exact hL10    n10 _ _ h
  · replace h := h.2 q_1
    refine j_aload_n X 0 rfl rfl dX8_oneDay_4 ?_
    refine j_callVV X (nn := 0) (As := []) (st := []) (ci := 8) cl_79.1 (wE_8 _ cl_79.2) rfl aw_490 aw_491 (x_X8_grindsAll l D y ad  _ _ h) aw_489 aw_492 aw_5 (by decide +kernel) ⟨Nat.le_of_ble_eq_true rfl, Nat.le_of_ble_eq_true rfl⟩ rfl (Nat.le_of_ble_eq_true rfl) ⟨Nat.le_of_ble_eq_true rfl, Nat.le_of_ble_eq_true rfl⟩ dX8_oneDay_5 ?_
    intro M2 h
    refine j_iconst X (v := 0) (by decide) dX8_oneDay_8 ?_
    refine j_istore_n X [(2, .int 0), (0, .ref (ad 79)), (1, .int i1)] rfl (by decide) rfl dX8_oneDay_9 ?_
    refine j_lv (lv1 := [(0, .ref (ad 79)), (2, .int 0)]) [1, 0] rfl ?_
    obtain ⟨n10, h⟩ := h
    exact hL10    n10 _ _ h
theorem dX8_passes_2 : decode cX8_passes 2 = .ok (.iload_n 2, 1) := dk_28 (by decide +kernel)
theorem dX8_passes_3 : decode cX8_passes 3 = .ok (.iload_n 1, 1) := dk_27 (by decide +kernel)
theorem dX8_passes_4 : decode cX8_passes 4 = .ok (.if_icmp .ge 14, 3) := dk_162 (by decide +kernel)
theorem dX8_passes_18 : decode cX8_passes 18 = .ok (.return_, 1) := dk_177 (by decide +kernel)
theorem dX8_passes_7 : decode cX8_passes 7 = .ok (.aload_n 0, 1) := dk_42 (by decide +kernel)
theorem dX8_passes_8 : decode cX8_passes 8 = .ok (.iconst 1, 1) := dk_4 (by decide +kernel)
theorem dX8_passes_9 : decode cX8_passes 9 = .ok (.invokevirtual 171, 3) := dk_182 (by decide +kernel)
theorem dX8_passes_12 : decode cX8_passes 12 = .ok (.iinc 2 1, 3) := dk_132 (by decide +kernel)
theorem dX8_passes_15 : decode cX8_passes 15 = .ok (.goto (-13), 3) := dk_167 (by decide +kernel)
theorem dX8_passes_0 : decode cX8_passes 0 = .ok (.iconst 0, 1) := dk_3 (by decide +kernel)
theorem dX8_passes_1 : decode cX8_passes 1 = .ok (.istore_n 2, 1) := dk_61 (by decide +kernel)
set_option maxRecDepth 100000 in
set_option maxHeartbeats 8000000 in
theorem x_X8_passes (l : Launch) (D : va_G) (y : wY) (ad : Nat → Nat) (i1 : Int32) (M : Mem) (K : Mem → Prop) (h : wp_X8_passes i1 M K) : MV l D y ad yX8_passes (Cond.code yX8_passes cX8_passes 3 none) 6 M [.ref (ad 79), .int i1] K := by
  refine MV_of (by decide) (Nat.le_of_ble_eq_true rfl) ?_
  intro p e s m args below meth c X hr hlocks
  have hL2 : ∀ (i1 : Int32) (n : Nat) (i2 : Int32) (Mb : Mem), wp_X8_passes_L2 K i1 n i2 Mb → J p l e (rmN 6) s m args below meth c 0 0 (QV K D y ad M s args below) D y ad (va_A (PL y ad M) s.heap.size) 3 Mb 2 [(0, .ref (ad 79)), (1, .int i1), (2, .int i2)] [] := by
    intro i1 n
    induction n with
    | zero => intro i2 Mb h; exact False.elim h
    | succ n hB2 =>
      intro i2 Mb h
      replace h : wp_X8_passes_l2 K i1 (wp_X8_passes_L2 K i1 n) i2 Mb := h
      delta wp_X8_passes_l2 at h
      refine j_iload_n X 2 rfl rfl dX8_passes_2 ?_
      refine j_iload_n X 1 rfl rfl dX8_passes_3 ?_
      refine j_icmp_ge X 18 (by decide) dX8_passes_4 (fun q_201 => ?_) (fun q_201 => ?_)
      · replace h := h.1 q_201
        exact j_vret X hr hlocks dX8_passes_18 h
      · replace h := h.2 q_201
        refine j_aload_n X 0 rfl rfl dX8_passes_7 ?_
        refine j_iconst X (v := 1) (by decide) dX8_passes_8 ?_
        refine j_callVV X (nn := 1) (As := [.int 1]) (st := []) (ci := 8) cl_79.1 (wE_8 _ cl_79.2) rfl aw_486 aw_487 (x_X8_oneDay l D y ad 1 _ _ h) aw_485 aw_488 aw_5 (by decide +kernel) ⟨Nat.le_of_ble_eq_true rfl, Nat.le_of_ble_eq_true rfl⟩ rfl (Nat.le_of_ble_eq_true rfl) ⟨Nat.le_of_ble_eq_true rfl, Nat.le_of_ble_eq_true rfl⟩ dX8_passes_9 ?_
        intro M202 h
        refine j_iinc X (v := (i2 + 1)) 2 [(2, .int (i2 + 1)), (0, .ref (ad 79)), (1, .int i1)] rfl rfl (by decide) rfl dX8_passes_12 ?_
        refine j_goto X 2 (by decide) dX8_passes_15 ?_
        refine j_lv (lv1 := [(0, .ref (ad 79)), (1, .int i1), (2, .int (i2 + 1))]) [1, 2, 0] rfl ?_
        exact hB2 _ _ h
  delta wp_X8_passes at h
  refine j_lv (lv1 := [(0, .ref (ad 79)), (1, .int i1)]) [0, 1] rfl ?_
  refine j_iconst X (v := 0) (by decide) dX8_passes_0 ?_
  refine j_istore_n X [(2, .int 0), (0, .ref (ad 79)), (1, .int i1)] rfl (by decide) rfl dX8_passes_1 ?_
  refine j_lv (lv1 := [(0, .ref (ad 79)), (1, .int i1), (2, .int 0)]) [1, 2, 0] rfl ?_
  obtain ⟨n2, h⟩ := h
  exact hL2 _   n2 _ _ h
theorem dX8_overSet_4 : decode cX8_overSet 4 = .ok (.iload_n 2, 1) := dk_28 (by decide +kernel)
theorem dX8_overSet_5 : decode cX8_overSet 5 = .ok (.aload_n 0, 1) := dk_42 (by decide +kernel)
theorem dX8_overSet_6 : decode cX8_overSet 6 = .ok (.getfield 7, 3) := dk_180 (by decide +kernel)
theorem dX8_overSet_9 : decode cX8_overSet 9 = .ok (.iconst 2, 1) := dk_5 (by decide +kernel)
theorem dX8_overSet_10 : decode cX8_overSet 10 = .ok (.iaload, 1) := dk_46 (by decide +kernel)
theorem dX8_overSet_11 : decode cX8_overSet 11 = .ok (.if_icmp .ge 20, 3) := dk_162 (by decide +kernel)
theorem dX8_overSet_31 : decode cX8_overSet 31 = .ok (.iload_n 1, 1) := dk_27 (by decide +kernel)
theorem dX8_overSet_32 : decode cX8_overSet 32 = .ok (.ireturn, 1) := dk_172 (by decide +kernel)
theorem dX8_overSet_14 : decode cX8_overSet 14 = .ok (.iload_n 1, 1) := dk_27 (by decide +kernel)
theorem dX8_overSet_15 : decode cX8_overSet 15 = .ok (.aload_n 0, 1) := dk_42 (by decide +kernel)
theorem dX8_overSet_16 : decode cX8_overSet 16 = .ok (.iload_n 2, 1) := dk_28 (by decide +kernel)
theorem dX8_overSet_17 : decode cX8_overSet 17 = .ok (.iconst 5, 1) := dk_8 (by decide +kernel)
theorem dX8_overSet_18 : decode cX8_overSet 18 = .ok (.invokevirtual 65, 3) := dk_182 (by decide +kernel)
theorem dX8_overSet_21 : decode cX8_overSet 21 = .ok (.iload_n 2, 1) := dk_28 (by decide +kernel)
theorem dX8_overSet_22 : decode cX8_overSet 22 = .ok (.ishl, 1) := dk_120 (by decide +kernel)
theorem dX8_overSet_23 : decode cX8_overSet 23 = .ok (.ior, 1) := dk_128 (by decide +kernel)
theorem dX8_overSet_24 : decode cX8_overSet 24 = .ok (.istore_n 1, 1) := dk_60 (by decide +kernel)
theorem dX8_overSet_25 : decode cX8_overSet 25 = .ok (.iinc 2 1, 3) := dk_132 (by decide +kernel)
theorem dX8_overSet_28 : decode cX8_overSet 28 = .ok (.goto (-24), 3) := dk_167 (by decide +kernel)
theorem dX8_overSet_0 : decode cX8_overSet 0 = .ok (.iconst 0, 1) := dk_3 (by decide +kernel)
theorem dX8_overSet_1 : decode cX8_overSet 1 = .ok (.istore_n 1, 1) := dk_60 (by decide +kernel)
theorem dX8_overSet_2 : decode cX8_overSet 2 = .ok (.iconst 0, 1) := dk_3 (by decide +kernel)
theorem dX8_overSet_3 : decode cX8_overSet 3 = .ok (.istore_n 2, 1) := dk_61 (by decide +kernel)
set_option maxRecDepth 100000 in
set_option maxHeartbeats 8000000 in
theorem x_X8_overSet (l : Launch) (D : va_G) (y : wY) (ad : Nat → Nat) (M : Mem) (K : Int32 → Mem → Prop) (h : wp_X8_overSet M K) : MI l D y ad yX8_overSet (Cond.code yX8_overSet cX8_overSet 3 (some .int)) 1 M [.ref (ad 79)] K := by
  refine MI_of (by decide) (Nat.le_of_ble_eq_true rfl) ?_
  intro p e s m args below meth c X hr hlocks
  have hL4 : ∀ (n : Nat) (i1 : Int32) (i2 : Int32) (Mb : Mem), wp_X8_overSet_L4 K n i1 i2 Mb → J p l e (rmN 1) s m args below meth c 0 0 (QI K D y ad M s args below) D y ad (va_A (PL y ad M) s.heap.size) 3 Mb 4 [(0, .ref (ad 79)), (1, .int i1), (2, .int i2)] [] := by
    intro n
    induction n with
    | zero => intro i1 i2 Mb h; exact False.elim h
    | succ n hB4 =>
      intro i1 i2 Mb h
      replace h : wp_X8_overSet_l4 K (wp_X8_overSet_L4 K n) i1 i2 Mb := h
      delta wp_X8_overSet_l4 at h
      refine j_iload_n X 2 rfl rfl dX8_overSet_4 ?_
      refine j_aload_n X 0 rfl rfl dX8_overSet_5 ?_
      refine j_get X cl_79.1 (wE_8 _ cl_79.2) rfl awF8 0 (by decide) aw_92 rfl (v := .ref (ad 80)) rfl dX8_overSet_6 ?_
      refine j_iconst X (v := 2) (by decide) dX8_overSet_9 ?_
      refine j_iald X cl_80.1 cl_80.2 (by unfold vp_in; decide) dX8_overSet_10 ?_
      refine j_eqi (v := Mb 80 2) rfl ?_
      refine j_icmp_ge X 31 (by decide) dX8_overSet_11 (fun q_401 => ?_) (fun q_401 => ?_)
      · replace h := h.1 q_401
        refine j_iload_n X 1 rfl rfl dX8_overSet_31 ?_
        exact j_iret X hr hlocks dX8_overSet_32 h
      · replace h := h.2 q_401
        refine j_iload_n X 1 rfl rfl dX8_overSet_14 ?_
        refine j_aload_n X 0 rfl rfl dX8_overSet_15 ?_
        refine j_iload_n X 2 rfl rfl dX8_overSet_16 ?_
        refine j_iconst X (v := 5) (by decide) dX8_overSet_17 ?_
        refine j_callVI X (nn := 2) (As := [.int i2, .int 5]) (st := [.int i1]) (ci := 8) cl_79.1 (wE_8 _ cl_79.2) rfl aw_161 aw_162 (x_X8_its l D y ad i2 5 _ _ h) aw_160 aw_163 aw_5 (by decide +kernel) ⟨Nat.le_of_ble_eq_true rfl, Nat.le_of_ble_eq_true rfl⟩ rfl (Nat.le_of_ble_eq_true rfl) ⟨Nat.le_of_ble_eq_true rfl, Nat.le_of_ble_eq_true rfl⟩ dX8_overSet_18 ?_
        intro r402 M402 h
        refine j_iload_n X 2 rfl rfl dX8_overSet_21 ?_
        refine j_ishl X dX8_overSet_22 ?_
        refine j_ior X dX8_overSet_23 ?_
        refine j_istore_n X [(1, .int (i1 ||| (r402 <<< (i2 &&& 31)))), (0, .ref (ad 79)), (2, .int i2)] rfl (by decide) rfl dX8_overSet_24 ?_
        refine j_iinc X (v := (i2 + 1)) 2 [(2, .int (i2 + 1)), (1, .int (i1 ||| (r402 <<< (i2 &&& 31)))), (0, .ref (ad 79))] rfl rfl (by decide) rfl dX8_overSet_25 ?_
        refine j_goto X 4 (by decide) dX8_overSet_28 ?_
        refine j_lv (lv1 := [(0, .ref (ad 79)), (1, .int (i1 ||| (r402 <<< (i2 &&& 31)))), (2, .int (i2 + 1))]) [2, 1, 0] rfl ?_
        exact hB4 _ _ _ h
  delta wp_X8_overSet at h
  refine j_lv (lv1 := [(0, .ref (ad 79))]) [0] rfl ?_
  refine j_iconst X (v := 0) (by decide) dX8_overSet_0 ?_
  refine j_istore_n X [(1, .int 0), (0, .ref (ad 79))] rfl (by decide) rfl dX8_overSet_1 ?_
  refine j_iconst X (v := 0) (by decide) dX8_overSet_2 ?_
  refine j_istore_n X [(2, .int 0), (1, .int 0), (0, .ref (ad 79))] rfl (by decide) rfl dX8_overSet_3 ?_
  refine j_lv (lv1 := [(0, .ref (ad 79)), (1, .int 0), (2, .int 0)]) [2, 1, 0] rfl ?_
  obtain ⟨n4, h⟩ := h
  exact hL4    n4 _ _ _ h
theorem dX8_overBehind_0 : decode cX8_overBehind 0 = .ok (.aload_n 0, 1) := dk_42 (by decide +kernel)
theorem dX8_overBehind_1 : decode cX8_overBehind 1 = .ok (.aload_n 0, 1) := dk_42 (by decide +kernel)
theorem dX8_overBehind_2 : decode cX8_overBehind 2 = .ok (.getfield 7, 3) := dk_180 (by decide +kernel)
theorem dX8_overBehind_5 : decode cX8_overBehind 5 = .ok (.aload_n 0, 1) := dk_42 (by decide +kernel)
theorem dX8_overBehind_6 : decode cX8_overBehind 6 = .ok (.getfield 16, 3) := dk_180 (by decide +kernel)
theorem dX8_overBehind_9 : decode cX8_overBehind 9 = .ok (.invokevirtual 175, 3) := dk_182 (by decide +kernel)
theorem dX8_overBehind_12 : decode cX8_overBehind 12 = .ok (.aload_n 0, 1) := dk_42 (by decide +kernel)
theorem dX8_overBehind_13 : decode cX8_overBehind 13 = .ok (.iload_n 1, 1) := dk_27 (by decide +kernel)
theorem dX8_overBehind_14 : decode cX8_overBehind 14 = .ok (.invokevirtual 179, 3) := dk_182 (by decide +kernel)
theorem dX8_overBehind_17 : decode cX8_overBehind 17 = .ok (.aload_n 0, 1) := dk_42 (by decide +kernel)
theorem dX8_overBehind_18 : decode cX8_overBehind 18 = .ok (.invokevirtual 182, 3) := dk_182 (by decide +kernel)
theorem dX8_overBehind_21 : decode cX8_overBehind 21 = .ok (.istore_n 2, 1) := dk_61 (by decide +kernel)
theorem dX8_overBehind_22 : decode cX8_overBehind 22 = .ok (.aload_n 0, 1) := dk_42 (by decide +kernel)
theorem dX8_overBehind_23 : decode cX8_overBehind 23 = .ok (.aload_n 0, 1) := dk_42 (by decide +kernel)
theorem dX8_overBehind_24 : decode cX8_overBehind 24 = .ok (.getfield 16, 3) := dk_180 (by decide +kernel)
theorem dX8_overBehind_27 : decode cX8_overBehind 27 = .ok (.aload_n 0, 1) := dk_42 (by decide +kernel)
theorem dX8_overBehind_28 : decode cX8_overBehind 28 = .ok (.getfield 7, 3) := dk_180 (by decide +kernel)
theorem dX8_overBehind_31 : decode cX8_overBehind 31 = .ok (.invokevirtual 175, 3) := dk_182 (by decide +kernel)
theorem dX8_overBehind_34 : decode cX8_overBehind 34 = .ok (.iload_n 2, 1) := dk_28 (by decide +kernel)
theorem dX8_overBehind_35 : decode cX8_overBehind 35 = .ok (.ireturn, 1) := dk_172 (by decide +kernel)
set_option maxRecDepth 100000 in
set_option maxHeartbeats 8000000 in
theorem x_X8_overBehind (l : Launch) (D : va_G) (y : wY) (ad : Nat → Nat) (i1 : Int32) (M : Mem) (K : Int32 → Mem → Prop) (h : wp_X8_overBehind i1 M K) : MI l D y ad yX8_overBehind (Cond.code yX8_overBehind cX8_overBehind 3 (some .int)) 7 M [.ref (ad 79), .int i1] K := by
  refine MI_of (by decide) (Nat.le_of_ble_eq_true rfl) ?_
  intro p e s m args below meth c X hr hlocks
  delta wp_X8_overBehind at h
  refine j_lv (lv1 := [(0, .ref (ad 79)), (1, .int i1)]) [0, 1] rfl ?_
  refine j_aload_n X 0 rfl rfl dX8_overBehind_0 ?_
  refine j_aload_n X 0 rfl rfl dX8_overBehind_1 ?_
  refine j_get X cl_79.1 (wE_8 _ cl_79.2) rfl awF8 0 (by decide) aw_92 rfl (v := .ref (ad 80)) rfl dX8_overBehind_2 ?_
  refine j_aload_n X 0 rfl rfl dX8_overBehind_5 ?_
  refine j_get X cl_79.1 (wE_8 _ cl_79.2) rfl awF8 2 (by decide) aw_94 rfl (v := .ref (ad 82)) rfl dX8_overBehind_6 ?_
  refine j_callVV X (nn := 2) (As := [.ref (ad 80), .ref (ad 82)]) (st := []) (ci := 8) cl_79.1 (wE_8 _ cl_79.2) rfl aw_553 aw_554 (x_X8_moveAll l D y ad 80 82 cl_80 cl_82 _ _ h) aw_552 aw_555 aw_5 (by decide +kernel) ⟨Nat.le_of_ble_eq_true rfl, Nat.le_of_ble_eq_true rfl⟩ rfl (Nat.le_of_ble_eq_true rfl) ⟨Nat.le_of_ble_eq_true rfl, Nat.le_of_ble_eq_true rfl⟩ dX8_overBehind_9 ?_
  intro M1 h
  refine j_aload_n X 0 rfl rfl dX8_overBehind_12 ?_
  refine j_iload_n X 1 rfl rfl dX8_overBehind_13 ?_
  refine j_callVV X (nn := 1) (As := [.int i1]) (st := []) (ci := 8) cl_79.1 (wE_8 _ cl_79.2) rfl aw_482 aw_483 (x_X8_passes l D y ad i1 _ _ h) aw_481 aw_484 aw_5 (by decide +kernel) ⟨Nat.le_of_ble_eq_true rfl, Nat.le_of_ble_eq_true rfl⟩ rfl (Nat.le_of_ble_eq_true rfl) ⟨Nat.le_of_ble_eq_true rfl, Nat.le_of_ble_eq_true rfl⟩ dX8_overBehind_14 ?_
  intro M2 h
  refine j_aload_n X 0 rfl rfl dX8_overBehind_17 ?_
  refine j_callVI X (nn := 0) (As := []) (st := []) (ci := 8) cl_79.1 (wE_8 _ cl_79.2) rfl aw_506 aw_507 (x_X8_overSet l D y ad  _ _ h) aw_505 aw_508 aw_5 (by decide +kernel) ⟨Nat.le_of_ble_eq_true rfl, Nat.le_of_ble_eq_true rfl⟩ rfl (Nat.le_of_ble_eq_true rfl) ⟨Nat.le_of_ble_eq_true rfl, Nat.le_of_ble_eq_true rfl⟩ dX8_overBehind_18 ?_
  intro r3 M3 h
  refine j_istore_n X [(2, .int r3), (0, .ref (ad 79)), (1, .int i1)] rfl (by decide) rfl dX8_overBehind_21 ?_
  refine j_aload_n X 1 rfl rfl dX8_overBehind_22 ?_
  refine j_aload_n X 1 rfl rfl dX8_overBehind_23 ?_
  refine j_get X cl_79.1 (wE_8 _ cl_79.2) rfl awF8 2 (by decide) aw_94 rfl (v := .ref (ad 82)) rfl dX8_overBehind_24 ?_
  refine j_aload_n X 1 rfl rfl dX8_overBehind_27 ?_
  refine j_get X cl_79.1 (wE_8 _ cl_79.2) rfl awF8 0 (by decide) aw_92 rfl (v := .ref (ad 80)) rfl dX8_overBehind_28 ?_
  refine j_callVV X (nn := 2) (As := [.ref (ad 82), .ref (ad 80)]) (st := []) (ci := 8) cl_79.1 (wE_8 _ cl_79.2) rfl aw_553 aw_554 (x_X8_moveAll l D y ad 82 80 cl_82 cl_80 _ _ h) aw_552 aw_555 aw_5 (by decide +kernel) ⟨Nat.le_of_ble_eq_true rfl, Nat.le_of_ble_eq_true rfl⟩ rfl (Nat.le_of_ble_eq_true rfl) ⟨Nat.le_of_ble_eq_true rfl, Nat.le_of_ble_eq_true rfl⟩ dX8_overBehind_31 ?_
  intro M4 h
  refine j_iload_n X 0 rfl rfl dX8_overBehind_34 ?_
  exact j_iret X hr hlocks dX8_overBehind_35 h
theorem dX8_days_0 : decode cX8_days 0 = .ok (.iload_n 1, 1) := dk_27 (by decide +kernel)
theorem dX8_days_1 : decode cX8_days 1 = .ok (.iconst 1, 1) := dk_4 (by decide +kernel)
theorem dX8_days_2 : decode cX8_days 2 = .ok (.bipush 60, 2) := dk_16 (by decide +kernel)
theorem dX8_days_4 : decode cX8_days 4 = .ok (.invokestatic 47, 3) := dk_184 (by decide +kernel)
theorem dX8_days_7 : decode cX8_days 7 = .ok (.ifCond .ne 10, 3) := dk_154 (by decide +kernel)
theorem dX8_days_17 : decode cX8_days 17 = .ok (.aload_n 0, 1) := dk_42 (by decide +kernel)
theorem dX8_days_18 : decode cX8_days 18 = .ok (.getfield 7, 3) := dk_180 (by decide +kernel)
theorem dX8_days_21 : decode cX8_days 21 = .ok (.iconst 0, 1) := dk_3 (by decide +kernel)
theorem dX8_days_22 : decode cX8_days 22 = .ok (.iaload, 1) := dk_46 (by decide +kernel)
theorem dX8_days_23 : decode cX8_days 23 = .ok (.iload_n 1, 1) := dk_27 (by decide +kernel)
theorem dX8_days_24 : decode cX8_days 24 = .ok (.iadd, 1) := dk_96 (by decide +kernel)
theorem dX8_days_25 : decode cX8_days 25 = .ok (.sipush 9999, 3) := dk_17 (by decide +kernel)
theorem dX8_days_28 : decode cX8_days 28 = .ok (.if_icmp .le 10, 3) := dk_164 (by decide +kernel)
theorem dX8_days_38 : decode cX8_days 38 = .ok (.aload_n 0, 1) := dk_42 (by decide +kernel)
theorem dX8_days_39 : decode cX8_days 39 = .ok (.iload_n 1, 1) := dk_27 (by decide +kernel)
theorem dX8_days_40 : decode cX8_days 40 = .ok (.invokevirtual 179, 3) := dk_182 (by decide +kernel)
theorem dX8_days_43 : decode cX8_days 43 = .ok (.aload_n 0, 1) := dk_42 (by decide +kernel)
theorem dX8_days_44 : decode cX8_days 44 = .ok (.invokevirtual 182, 3) := dk_182 (by decide +kernel)
theorem dX8_days_47 : decode cX8_days 47 = .ok (.invokestatic 187, 3) := dk_184 (by decide +kernel)
theorem dX8_days_50 : decode cX8_days 50 = .ok (.ireturn, 1) := dk_172 (by decide +kernel)
theorem dX8_days_31 : decode cX8_days 31 = .ok (.aload_n 0, 1) := dk_42 (by decide +kernel)
theorem dX8_days_32 : decode cX8_days 32 = .ok (.ldc 186, 2) := dk_18 (by decide +kernel)
theorem dX8_days_34 : decode cX8_days 34 = .ok (.invokevirtual 61, 3) := dk_182 (by decide +kernel)
theorem dX8_days_37 : decode cX8_days 37 = .ok (.ireturn, 1) := dk_172 (by decide +kernel)
theorem dX8_days_10 : decode cX8_days 10 = .ok (.aload_n 0, 1) := dk_42 (by decide +kernel)
theorem dX8_days_11 : decode cX8_days 11 = .ok (.ldc 60, 2) := dk_18 (by decide +kernel)
theorem dX8_days_13 : decode cX8_days 13 = .ok (.invokevirtual 61, 3) := dk_182 (by decide +kernel)
theorem dX8_days_16 : decode cX8_days 16 = .ok (.ireturn, 1) := dk_172 (by decide +kernel)
set_option maxRecDepth 100000 in
set_option maxHeartbeats 8000000 in
theorem x_X8_days (l : Launch) (D : va_G) (y : wY) (ad : Nat → Nat) (i1 : Int32) (M : Mem) (K : Int32 → Mem → Prop) (h : wp_X8_days i1 M K) : MI l D y ad yX8_days (Cond.code yX8_days cX8_days 2 (some .int)) 7 M [.ref (ad 79), .int i1] K := by
  refine MI_of (by decide) (Nat.le_of_ble_eq_true rfl) ?_
  intro p e s m args below meth c X hr hlocks
  delta wp_X8_days at h
  refine j_lv (lv1 := [(0, .ref (ad 79)), (1, .int i1)]) [0, 1] rfl ?_
  refine j_iload_n X 1 rfl rfl dX8_days_0 ?_
  refine j_iconst X (v := 1) (by decide) dX8_days_1 ?_
  refine j_bipush X (v := 60) (by decide) dX8_days_2 ?_
  refine j_callSI X (nn := 3) (As := [.int i1, .int 1, .int 60]) (st := []) aw_134 (x_X8_in l D y ad i1 1 60 _ _ h) aw_133 aw_135 aw_5 (by decide +kernel) ⟨Nat.le_of_ble_eq_true rfl, Nat.le_of_ble_eq_true rfl⟩ rfl (Nat.le_of_ble_eq_true rfl) ⟨Nat.le_of_ble_eq_true rfl, Nat.le_of_ble_eq_true rfl⟩ dX8_days_4 ?_
  intro r1 M1 h
  refine j_if_ne X 17 (by decide) dX8_days_7 (fun q_2 => ?_) (fun q_2 => ?_)
  · replace h := h.1 q_2
    refine j_aload_n X 0 rfl rfl dX8_days_17 ?_
    refine j_get X cl_79.1 (wE_8 _ cl_79.2) rfl awF8 0 (by decide) aw_92 rfl (v := .ref (ad 80)) rfl dX8_days_18 ?_
    refine j_iconst X (v := 0) (by decide) dX8_days_21 ?_
    refine j_iald X cl_80.1 cl_80.2 (by unfold vp_in; decide) dX8_days_22 ?_
    refine j_eqi (v := M1 80 0) rfl ?_
    refine j_iload_n X 1 rfl rfl dX8_days_23 ?_
    refine j_iadd X dX8_days_24 ?_
    refine j_sipush X (v := 9999) (by decide) dX8_days_25 ?_
    refine j_icmp_le X 38 (by decide) dX8_days_28 (fun q_3 => ?_) (fun q_3 => ?_)
    · replace h := h.1 q_3
      refine j_aload_n X 0 rfl rfl dX8_days_38 ?_
      refine j_iload_n X 1 rfl rfl dX8_days_39 ?_
      refine j_callVV X (nn := 1) (As := [.int i1]) (st := []) (ci := 8) cl_79.1 (wE_8 _ cl_79.2) rfl aw_482 aw_483 (x_X8_passes l D y ad i1 _ _ h) aw_481 aw_484 aw_5 (by decide +kernel) ⟨Nat.le_of_ble_eq_true rfl, Nat.le_of_ble_eq_true rfl⟩ rfl (Nat.le_of_ble_eq_true rfl) ⟨Nat.le_of_ble_eq_true rfl, Nat.le_of_ble_eq_true rfl⟩ dX8_days_40 ?_
      intro M4 h
      refine j_aload_n X 0 rfl rfl dX8_days_43 ?_
      refine j_callVI X (nn := 0) (As := []) (st := []) (ci := 8) cl_79.1 (wE_8 _ cl_79.2) rfl aw_506 aw_507 (x_X8_overSet l D y ad  _ _ h) aw_505 aw_508 aw_5 (by decide +kernel) ⟨Nat.le_of_ble_eq_true rfl, Nat.le_of_ble_eq_true rfl⟩ rfl (Nat.le_of_ble_eq_true rfl) ⟨Nat.le_of_ble_eq_true rfl, Nat.le_of_ble_eq_true rfl⟩ dX8_days_44 ?_
      intro r5 M5 h
      refine j_callSI X (nn := 1) (As := [.int r5]) (st := []) aw_510 (x_X8_bits l D y ad r5 _ _ h) aw_509 aw_511 aw_5 (by decide +kernel) ⟨Nat.le_of_ble_eq_true rfl, Nat.le_of_ble_eq_true rfl⟩ rfl (Nat.le_of_ble_eq_true rfl) ⟨Nat.le_of_ble_eq_true rfl, Nat.le_of_ble_eq_true rfl⟩ dX8_days_47 ?_
      intro r6 M6 h
      exact j_iret X hr hlocks dX8_days_50 h
    · replace h := h.2 q_3
      refine j_aload_n X 0 rfl rfl dX8_days_31 ?_
      refine j_ldc X (v := (-1000000003)) aw_480 dX8_days_32 ?_
      refine j_callVI X (nn := 1) (As := [.int (-1000000003)]) (st := []) (ci := 8) cl_79.1 (wE_8 _ cl_79.2) rfl aw_144 aw_145 (x_X8_errs l D y ad (-1000000003) _ _ h) aw_143 aw_146 aw_5 (by decide +kernel) ⟨Nat.le_of_ble_eq_true rfl, Nat.le_of_ble_eq_true rfl⟩ rfl (Nat.le_of_ble_eq_true rfl) ⟨Nat.le_of_ble_eq_true rfl, Nat.le_of_ble_eq_true rfl⟩ dX8_days_34 ?_
      intro r7 M7 h
      exact j_iret X hr hlocks dX8_days_37 h
  · replace h := h.2 q_2
    refine j_aload_n X 0 rfl rfl dX8_days_10 ?_
    refine j_ldc X (v := (-1000000001)) aw_132 dX8_days_11 ?_
    refine j_callVI X (nn := 1) (As := [.int (-1000000001)]) (st := []) (ci := 8) cl_79.1 (wE_8 _ cl_79.2) rfl aw_144 aw_145 (x_X8_errs l D y ad (-1000000001) _ _ h) aw_143 aw_146 aw_5 (by decide +kernel) ⟨Nat.le_of_ble_eq_true rfl, Nat.le_of_ble_eq_true rfl⟩ rfl (Nat.le_of_ble_eq_true rfl) ⟨Nat.le_of_ble_eq_true rfl, Nat.le_of_ble_eq_true rfl⟩ dX8_days_13 ?_
    intro r8 M8 h
    exact j_iret X hr hlocks dX8_days_16 h
theorem dX8_drawn_0 : decode cX8_drawn 0 = .ok (.aload_n 0, 1) := dk_42 (by decide +kernel)
theorem dX8_drawn_1 : decode cX8_drawn 1 = .ok (.getfield 7, 3) := dk_180 (by decide +kernel)
theorem dX8_drawn_4 : decode cX8_drawn 4 = .ok (.iconst 1, 1) := dk_4 (by decide +kernel)
theorem dX8_drawn_5 : decode cX8_drawn 5 = .ok (.aload_n 0, 1) := dk_42 (by decide +kernel)
theorem dX8_drawn_6 : decode cX8_drawn 6 = .ok (.getfield 7, 3) := dk_180 (by decide +kernel)
theorem dX8_drawn_9 : decode cX8_drawn 9 = .ok (.iconst 1, 1) := dk_4 (by decide +kernel)
theorem dX8_drawn_10 : decode cX8_drawn 10 = .ok (.iaload, 1) := dk_46 (by decide +kernel)
theorem dX8_drawn_11 : decode cX8_drawn 11 = .ok (.ldc 190, 2) := dk_18 (by decide +kernel)
theorem dX8_drawn_13 : decode cX8_drawn 13 = .ok (.imul, 1) := dk_104 (by decide +kernel)
theorem dX8_drawn_14 : decode cX8_drawn 14 = .ok (.sipush 12345, 3) := dk_17 (by decide +kernel)
theorem dX8_drawn_17 : decode cX8_drawn 17 = .ok (.iadd, 1) := dk_96 (by decide +kernel)
theorem dX8_drawn_18 : decode cX8_drawn 18 = .ok (.iastore, 1) := dk_79 (by decide +kernel)
theorem dX8_drawn_19 : decode cX8_drawn 19 = .ok (.aload_n 0, 1) := dk_42 (by decide +kernel)
theorem dX8_drawn_20 : decode cX8_drawn 20 = .ok (.getfield 7, 3) := dk_180 (by decide +kernel)
theorem dX8_drawn_23 : decode cX8_drawn 23 = .ok (.iconst 1, 1) := dk_4 (by decide +kernel)
theorem dX8_drawn_24 : decode cX8_drawn 24 = .ok (.iaload, 1) := dk_46 (by decide +kernel)
theorem dX8_drawn_25 : decode cX8_drawn 25 = .ok (.bipush 8, 2) := dk_16 (by decide +kernel)
theorem dX8_drawn_27 : decode cX8_drawn 27 = .ok (.iushr, 1) := dk_124 (by decide +kernel)
theorem dX8_drawn_28 : decode cX8_drawn 28 = .ok (.iload_n 1, 1) := dk_27 (by decide +kernel)
theorem dX8_drawn_29 : decode cX8_drawn 29 = .ok (.irem, 1) := dk_112 (by decide +kernel)
theorem dX8_drawn_30 : decode cX8_drawn 30 = .ok (.ireturn, 1) := dk_172 (by decide +kernel)
set_option maxRecDepth 100000 in
set_option maxHeartbeats 8000000 in
theorem x_X8_drawn (l : Launch) (D : va_G) (y : wY) (ad : Nat → Nat) (i1 : Int32) (M : Mem) (K : Int32 → Mem → Prop) (h : wp_X8_drawn i1 M K) : MI l D y ad yX8_drawn (Cond.code yX8_drawn cX8_drawn 2 (some .int)) 0 M [.ref (ad 79), .int i1] K := by
  refine MI_of (by decide) (Nat.le_of_ble_eq_true rfl) ?_
  intro p e s m args below meth c X hr hlocks
  delta wp_X8_drawn at h
  refine j_lv (lv1 := [(0, .ref (ad 79)), (1, .int i1)]) [0, 1] rfl ?_
  refine j_aload_n X 0 rfl rfl dX8_drawn_0 ?_
  refine j_get X cl_79.1 (wE_8 _ cl_79.2) rfl awF8 0 (by decide) aw_92 rfl (v := .ref (ad 80)) rfl dX8_drawn_1 ?_
  refine j_iconst X (v := 1) (by decide) dX8_drawn_4 ?_
  refine j_aload_n X 0 rfl rfl dX8_drawn_5 ?_
  refine j_get X cl_79.1 (wE_8 _ cl_79.2) rfl awF8 0 (by decide) aw_92 rfl (v := .ref (ad 80)) rfl dX8_drawn_6 ?_
  refine j_iconst X (v := 1) (by decide) dX8_drawn_9 ?_
  refine j_iald X cl_80.1 cl_80.2 (by unfold vp_in; decide) dX8_drawn_10 ?_
  refine j_eqi (v := M 80 1) rfl ?_
  refine j_ldc X (v := 1103515245) aw_528 dX8_drawn_11 ?_
  refine j_imul X dX8_drawn_13 ?_
  refine j_sipush X (v := 12345) (by decide) dX8_drawn_14 ?_
  refine j_iadd X dX8_drawn_17 ?_
  refine j_iast X cl_80.1 cl_80.2 (by unfold vp_in; decide) dX8_drawn_18 ?_
  refine j_eqM (M1 := (up M 80 1 (((M 80 1) * 1103515245) + 12345))) rfl ?_
  refine j_aload_n X 0 rfl rfl dX8_drawn_19 ?_
  refine j_get X cl_79.1 (wE_8 _ cl_79.2) rfl awF8 0 (by decide) aw_92 rfl (v := .ref (ad 80)) rfl dX8_drawn_20 ?_
  refine j_iconst X (v := 1) (by decide) dX8_drawn_23 ?_
  refine j_iald X cl_80.1 cl_80.2 (by unfold vp_in; decide) dX8_drawn_24 ?_
  refine j_eqi (v := (up M 80 1 (((M 80 1) * 1103515245) + 12345)) 80 1) rfl ?_
  refine j_bipush X (v := 8) (by decide) dX8_drawn_25 ?_
  refine j_iushr X dX8_drawn_27 ?_
  refine j_iload_n X 1 rfl rfl dX8_drawn_28 ?_
  obtain ⟨hn_1, h⟩ := h
  refine j_irem X hn_1 dX8_drawn_29 ?_
  exact j_iret X hr hlocks dX8_drawn_30 h
theorem dX8_loose_40 : decode cX8_loose 40 = .ok (.iload_n 2, 1) := dk_28 (by decide +kernel)
theorem dX8_loose_41 : decode cX8_loose 41 = .ok (.iload_n 1, 1) := dk_27 (by decide +kernel)
theorem dX8_loose_42 : decode cX8_loose 42 = .ok (.if_icmp .ge 27, 3) := dk_162 (by decide +kernel)
theorem dX8_loose_69 : decode cX8_loose 69 = .ok (.aload_n 0, 1) := dk_42 (by decide +kernel)
theorem dX8_loose_70 : decode cX8_loose 70 = .ok (.invokevirtual 182, 3) := dk_182 (by decide +kernel)
theorem dX8_loose_73 : decode cX8_loose 73 = .ok (.invokestatic 187, 3) := dk_184 (by decide +kernel)
theorem dX8_loose_76 : decode cX8_loose 76 = .ok (.ireturn, 1) := dk_172 (by decide +kernel)
theorem dX8_loose_45 : decode cX8_loose 45 = .ok (.aload_n 0, 1) := dk_42 (by decide +kernel)
theorem dX8_loose_46 : decode cX8_loose 46 = .ok (.getfield 7, 3) := dk_180 (by decide +kernel)
theorem dX8_loose_49 : decode cX8_loose 49 = .ok (.bipush 8, 2) := dk_16 (by decide +kernel)
theorem dX8_loose_51 : decode cX8_loose 51 = .ok (.aload_n 0, 1) := dk_42 (by decide +kernel)
theorem dX8_loose_52 : decode cX8_loose 52 = .ok (.bipush 10, 2) := dk_16 (by decide +kernel)
theorem dX8_loose_54 : decode cX8_loose 54 = .ok (.invokevirtual 191, 3) := dk_182 (by decide +kernel)
theorem dX8_loose_57 : decode cX8_loose 57 = .ok (.iastore, 1) := dk_79 (by decide +kernel)
theorem dX8_loose_58 : decode cX8_loose 58 = .ok (.aload_n 0, 1) := dk_42 (by decide +kernel)
theorem dX8_loose_59 : decode cX8_loose 59 = .ok (.iconst 1, 1) := dk_4 (by decide +kernel)
theorem dX8_loose_60 : decode cX8_loose 60 = .ok (.invokevirtual 171, 3) := dk_182 (by decide +kernel)
theorem dX8_loose_63 : decode cX8_loose 63 = .ok (.iinc 2 1, 3) := dk_132 (by decide +kernel)
theorem dX8_loose_66 : decode cX8_loose 66 = .ok (.goto (-26), 3) := dk_167 (by decide +kernel)
theorem dX8_loose_0 : decode cX8_loose 0 = .ok (.iload_n 1, 1) := dk_27 (by decide +kernel)
theorem dX8_loose_1 : decode cX8_loose 1 = .ok (.iconst 1, 1) := dk_4 (by decide +kernel)
theorem dX8_loose_2 : decode cX8_loose 2 = .ok (.bipush 40, 2) := dk_16 (by decide +kernel)
theorem dX8_loose_4 : decode cX8_loose 4 = .ok (.invokestatic 47, 3) := dk_184 (by decide +kernel)
theorem dX8_loose_7 : decode cX8_loose 7 = .ok (.ifCond .ne 10, 3) := dk_154 (by decide +kernel)
theorem dX8_loose_17 : decode cX8_loose 17 = .ok (.aload_n 0, 1) := dk_42 (by decide +kernel)
theorem dX8_loose_18 : decode cX8_loose 18 = .ok (.getfield 7, 3) := dk_180 (by decide +kernel)
theorem dX8_loose_21 : decode cX8_loose 21 = .ok (.iconst 0, 1) := dk_3 (by decide +kernel)
theorem dX8_loose_22 : decode cX8_loose 22 = .ok (.iaload, 1) := dk_46 (by decide +kernel)
theorem dX8_loose_23 : decode cX8_loose 23 = .ok (.iload_n 1, 1) := dk_27 (by decide +kernel)
theorem dX8_loose_24 : decode cX8_loose 24 = .ok (.iadd, 1) := dk_96 (by decide +kernel)
theorem dX8_loose_25 : decode cX8_loose 25 = .ok (.sipush 9999, 3) := dk_17 (by decide +kernel)
theorem dX8_loose_28 : decode cX8_loose 28 = .ok (.if_icmp .le 10, 3) := dk_164 (by decide +kernel)
theorem dX8_loose_38 : decode cX8_loose 38 = .ok (.iconst 0, 1) := dk_3 (by decide +kernel)
theorem dX8_loose_39 : decode cX8_loose 39 = .ok (.istore_n 2, 1) := dk_61 (by decide +kernel)
theorem dX8_loose_31 : decode cX8_loose 31 = .ok (.aload_n 0, 1) := dk_42 (by decide +kernel)
theorem dX8_loose_32 : decode cX8_loose 32 = .ok (.ldc 186, 2) := dk_18 (by decide +kernel)
theorem dX8_loose_34 : decode cX8_loose 34 = .ok (.invokevirtual 61, 3) := dk_182 (by decide +kernel)
theorem dX8_loose_37 : decode cX8_loose 37 = .ok (.ireturn, 1) := dk_172 (by decide +kernel)
theorem dX8_loose_10 : decode cX8_loose 10 = .ok (.aload_n 0, 1) := dk_42 (by decide +kernel)
theorem dX8_loose_11 : decode cX8_loose 11 = .ok (.ldc 60, 2) := dk_18 (by decide +kernel)
theorem dX8_loose_13 : decode cX8_loose 13 = .ok (.invokevirtual 61, 3) := dk_182 (by decide +kernel)
theorem dX8_loose_16 : decode cX8_loose 16 = .ok (.ireturn, 1) := dk_172 (by decide +kernel)
set_option maxRecDepth 100000 in
set_option maxHeartbeats 8000000 in
theorem x_X8_loose (l : Launch) (D : va_G) (y : wY) (ad : Nat → Nat) (i1 : Int32) (M : Mem) (K : Int32 → Mem → Prop) (h : wp_X8_loose i1 M K) : MI l D y ad yX8_loose (Cond.code yX8_loose cX8_loose 3 (some .int)) 6 M [.ref (ad 79), .int i1] K := by
  refine MI_of (by decide) (Nat.le_of_ble_eq_true rfl) ?_
  intro p e s m args below meth c X hr hlocks
  have hL40 : ∀ (i1 : Int32) (n : Nat) (i2 : Int32) (Mb : Mem), wp_X8_loose_L40 K i1 n i2 Mb → J p l e (rmN 6) s m args below meth c 0 0 (QI K D y ad M s args below) D y ad (va_A (PL y ad M) s.heap.size) 3 Mb 40 [(0, .ref (ad 79)), (1, .int i1), (2, .int i2)] [] := by
    intro i1 n
    induction n with
    | zero => intro i2 Mb h; exact False.elim h
    | succ n hB40 =>
      intro i2 Mb h
      replace h : wp_X8_loose_l40 K i1 (wp_X8_loose_L40 K i1 n) i2 Mb := h
      delta wp_X8_loose_l40 at h
      refine j_iload_n X 2 rfl rfl dX8_loose_40 ?_
      refine j_iload_n X 1 rfl rfl dX8_loose_41 ?_
      refine j_icmp_ge X 69 (by decide) dX8_loose_42 (fun q_4001 => ?_) (fun q_4001 => ?_)
      · replace h := h.1 q_4001
        refine j_aload_n X 0 rfl rfl dX8_loose_69 ?_
        refine j_callVI X (nn := 0) (As := []) (st := []) (ci := 8) cl_79.1 (wE_8 _ cl_79.2) rfl aw_506 aw_507 (x_X8_overSet l D y ad  _ _ h) aw_505 aw_508 aw_5 (by decide +kernel) ⟨Nat.le_of_ble_eq_true rfl, Nat.le_of_ble_eq_true rfl⟩ rfl (Nat.le_of_ble_eq_true rfl) ⟨Nat.le_of_ble_eq_true rfl, Nat.le_of_ble_eq_true rfl⟩ dX8_loose_70 ?_
        intro r4002 M4002 h
        refine j_callSI X (nn := 1) (As := [.int r4002]) (st := []) aw_510 (x_X8_bits l D y ad r4002 _ _ h) aw_509 aw_511 aw_5 (by decide +kernel) ⟨Nat.le_of_ble_eq_true rfl, Nat.le_of_ble_eq_true rfl⟩ rfl (Nat.le_of_ble_eq_true rfl) ⟨Nat.le_of_ble_eq_true rfl, Nat.le_of_ble_eq_true rfl⟩ dX8_loose_73 ?_
        intro r4003 M4003 h
        exact j_iret X hr hlocks dX8_loose_76 h
      · replace h := h.2 q_4001
        refine j_aload_n X 0 rfl rfl dX8_loose_45 ?_
        refine j_get X cl_79.1 (wE_8 _ cl_79.2) rfl awF8 0 (by decide) aw_92 rfl (v := .ref (ad 80)) rfl dX8_loose_46 ?_
        refine j_bipush X (v := 8) (by decide) dX8_loose_49 ?_
        refine j_aload_n X 0 rfl rfl dX8_loose_51 ?_
        refine j_bipush X (v := 10) (by decide) dX8_loose_52 ?_
        refine j_callVI X (nn := 1) (As := [.int 10]) (st := [.int 8, .ref (ad 80)]) (ci := 8) cl_79.1 (wE_8 _ cl_79.2) rfl aw_525 aw_526 (x_X8_drawn l D y ad 10 _ _ h) aw_524 aw_527 aw_5 (by decide +kernel) ⟨Nat.le_of_ble_eq_true rfl, Nat.le_of_ble_eq_true rfl⟩ rfl (Nat.le_of_ble_eq_true rfl) ⟨Nat.le_of_ble_eq_true rfl, Nat.le_of_ble_eq_true rfl⟩ dX8_loose_54 ?_
        intro r4004 M4004 h
        refine j_iast X cl_80.1 cl_80.2 (by unfold vp_in; decide) dX8_loose_57 ?_
        refine j_eqM (M1 := (up M4004 80 8 r4004)) rfl ?_
        refine j_aload_n X 0 rfl rfl dX8_loose_58 ?_
        refine j_iconst X (v := 1) (by decide) dX8_loose_59 ?_
        refine j_callVV X (nn := 1) (As := [.int 1]) (st := []) (ci := 8) cl_79.1 (wE_8 _ cl_79.2) rfl aw_486 aw_487 (x_X8_oneDay l D y ad 1 _ _ h) aw_485 aw_488 aw_5 (by decide +kernel) ⟨Nat.le_of_ble_eq_true rfl, Nat.le_of_ble_eq_true rfl⟩ rfl (Nat.le_of_ble_eq_true rfl) ⟨Nat.le_of_ble_eq_true rfl, Nat.le_of_ble_eq_true rfl⟩ dX8_loose_60 ?_
        intro M4005 h
        refine j_iinc X (v := (i2 + 1)) 2 [(2, .int (i2 + 1)), (0, .ref (ad 79)), (1, .int i1)] rfl rfl (by decide) rfl dX8_loose_63 ?_
        refine j_goto X 40 (by decide) dX8_loose_66 ?_
        refine j_lv (lv1 := [(0, .ref (ad 79)), (1, .int i1), (2, .int (i2 + 1))]) [1, 2, 0] rfl ?_
        exact hB40 _ _ h
  delta wp_X8_loose at h
  refine j_lv (lv1 := [(0, .ref (ad 79)), (1, .int i1)]) [0, 1] rfl ?_
  refine j_iload_n X 1 rfl rfl dX8_loose_0 ?_
  refine j_iconst X (v := 1) (by decide) dX8_loose_1 ?_
  refine j_bipush X (v := 40) (by decide) dX8_loose_2 ?_
  refine j_callSI X (nn := 3) (As := [.int i1, .int 1, .int 40]) (st := []) aw_134 (x_X8_in l D y ad i1 1 40 _ _ h) aw_133 aw_135 aw_5 (by decide +kernel) ⟨Nat.le_of_ble_eq_true rfl, Nat.le_of_ble_eq_true rfl⟩ rfl (Nat.le_of_ble_eq_true rfl) ⟨Nat.le_of_ble_eq_true rfl, Nat.le_of_ble_eq_true rfl⟩ dX8_loose_4 ?_
  intro r1 M1 h
  refine j_if_ne X 17 (by decide) dX8_loose_7 (fun q_2 => ?_) (fun q_2 => ?_)
  · replace h := h.1 q_2
    refine j_aload_n X 0 rfl rfl dX8_loose_17 ?_
    refine j_get X cl_79.1 (wE_8 _ cl_79.2) rfl awF8 0 (by decide) aw_92 rfl (v := .ref (ad 80)) rfl dX8_loose_18 ?_
    refine j_iconst X (v := 0) (by decide) dX8_loose_21 ?_
    refine j_iald X cl_80.1 cl_80.2 (by unfold vp_in; decide) dX8_loose_22 ?_
    refine j_eqi (v := M1 80 0) rfl ?_
    refine j_iload_n X 1 rfl rfl dX8_loose_23 ?_
    refine j_iadd X dX8_loose_24 ?_
    refine j_sipush X (v := 9999) (by decide) dX8_loose_25 ?_
    refine j_icmp_le X 38 (by decide) dX8_loose_28 (fun q_3 => ?_) (fun q_3 => ?_)
    · replace h := h.1 q_3
      refine j_iconst X (v := 0) (by decide) dX8_loose_38 ?_
      refine j_istore_n X [(2, .int 0), (0, .ref (ad 79)), (1, .int i1)] rfl (by decide) rfl dX8_loose_39 ?_
      refine j_lv (lv1 := [(0, .ref (ad 79)), (1, .int i1), (2, .int 0)]) [1, 2, 0] rfl ?_
      obtain ⟨n40, h⟩ := h
      exact hL40 _   n40 _ _ h
    · replace h := h.2 q_3
      refine j_aload_n X 0 rfl rfl dX8_loose_31 ?_
      refine j_ldc X (v := (-1000000003)) aw_480 dX8_loose_32 ?_
      refine j_callVI X (nn := 1) (As := [.int (-1000000003)]) (st := []) (ci := 8) cl_79.1 (wE_8 _ cl_79.2) rfl aw_144 aw_145 (x_X8_errs l D y ad (-1000000003) _ _ h) aw_143 aw_146 aw_5 (by decide +kernel) ⟨Nat.le_of_ble_eq_true rfl, Nat.le_of_ble_eq_true rfl⟩ rfl (Nat.le_of_ble_eq_true rfl) ⟨Nat.le_of_ble_eq_true rfl, Nat.le_of_ble_eq_true rfl⟩ dX8_loose_34 ?_
      intro r4 M4 h
      exact j_iret X hr hlocks dX8_loose_37 h
  · replace h := h.2 q_2
    refine j_aload_n X 0 rfl rfl dX8_loose_10 ?_
    refine j_ldc X (v := (-1000000001)) aw_132 dX8_loose_11 ?_
    refine j_callVI X (nn := 1) (As := [.int (-1000000001)]) (st := []) (ci := 8) cl_79.1 (wE_8 _ cl_79.2) rfl aw_144 aw_145 (x_X8_errs l D y ad (-1000000001) _ _ h) aw_143 aw_146 aw_5 (by decide +kernel) ⟨Nat.le_of_ble_eq_true rfl, Nat.le_of_ble_eq_true rfl⟩ rfl (Nat.le_of_ble_eq_true rfl) ⟨Nat.le_of_ble_eq_true rfl, Nat.le_of_ble_eq_true rfl⟩ dX8_loose_13 ?_
    intro r5 M5 h
    exact j_iret X hr hlocks dX8_loose_16 h
