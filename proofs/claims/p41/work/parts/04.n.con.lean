theorem dX8_then_0 : decode cX8_then 0 = .ok (.iload_n 1, 1) := dk_27 (by decide +kernel)
theorem dX8_then_1 : decode cX8_then 1 = .ok (.iconst 0, 1) := dk_3 (by decide +kernel)
theorem dX8_then_2 : decode cX8_then 2 = .ok (.bipush 60, 2) := dk_16 (by decide +kernel)
theorem dX8_then_4 : decode cX8_then 4 = .ok (.invokestatic 47, 3) := dk_184 (by decide +kernel)
theorem dX8_then_7 : decode cX8_then 7 = .ok (.ifCond .eq 20, 3) := dk_153 (by decide +kernel)
theorem dX8_then_27 : decode cX8_then 27 = .ok (.aload_n 0, 1) := dk_42 (by decide +kernel)
theorem dX8_then_28 : decode cX8_then 28 = .ok (.ldc 60, 2) := dk_18 (by decide +kernel)
theorem dX8_then_30 : decode cX8_then 30 = .ok (.invokevirtual 61, 3) := dk_182 (by decide +kernel)
theorem dX8_then_33 : decode cX8_then 33 = .ok (.ireturn, 1) := dk_172 (by decide +kernel)
theorem dX8_then_10 : decode cX8_then 10 = .ok (.aload_n 0, 1) := dk_42 (by decide +kernel)
theorem dX8_then_11 : decode cX8_then 11 = .ok (.iload_n 2, 1) := dk_28 (by decide +kernel)
theorem dX8_then_12 : decode cX8_then 12 = .ok (.invokevirtual 73, 3) := dk_182 (by decide +kernel)
theorem dX8_then_15 : decode cX8_then 15 = .ok (.ifCond .eq 12, 3) := dk_153 (by decide +kernel)
theorem dX8_then_18 : decode cX8_then 18 = .ok (.iload_n 3, 1) := dk_29 (by decide +kernel)
theorem dX8_then_19 : decode cX8_then 19 = .ok (.iconst 0, 1) := dk_3 (by decide +kernel)
theorem dX8_then_20 : decode cX8_then 20 = .ok (.iconst 2, 1) := dk_5 (by decide +kernel)
theorem dX8_then_21 : decode cX8_then 21 = .ok (.invokestatic 47, 3) := dk_184 (by decide +kernel)
theorem dX8_then_24 : decode cX8_then 24 = .ok (.ifCond .ne 10, 3) := dk_154 (by decide +kernel)
theorem dX8_then_34 : decode cX8_then 34 = .ok (.aload_n 0, 1) := dk_42 (by decide +kernel)
theorem dX8_then_35 : decode cX8_then 35 = .ok (.aload_n 0, 1) := dk_42 (by decide +kernel)
theorem dX8_then_36 : decode cX8_then 36 = .ok (.getfield 7, 3) := dk_180 (by decide +kernel)
theorem dX8_then_39 : decode cX8_then 39 = .ok (.aload_n 0, 1) := dk_42 (by decide +kernel)
theorem dX8_then_40 : decode cX8_then 40 = .ok (.getfield 16, 3) := dk_180 (by decide +kernel)
theorem dX8_then_43 : decode cX8_then 43 = .ok (.invokevirtual 175, 3) := dk_182 (by decide +kernel)
theorem dX8_then_46 : decode cX8_then 46 = .ok (.aload_n 0, 1) := dk_42 (by decide +kernel)
theorem dX8_then_47 : decode cX8_then 47 = .ok (.iload_n 1, 1) := dk_27 (by decide +kernel)
theorem dX8_then_48 : decode cX8_then 48 = .ok (.invokevirtual 179, 3) := dk_182 (by decide +kernel)
theorem dX8_then_51 : decode cX8_then 51 = .ok (.aload_n 0, 1) := dk_42 (by decide +kernel)
theorem dX8_then_52 : decode cX8_then 52 = .ok (.iload_n 2, 1) := dk_28 (by decide +kernel)
theorem dX8_then_53 : decode cX8_then 53 = .ok (.iload_n 3, 1) := dk_29 (by decide +kernel)
theorem dX8_then_54 : decode cX8_then 54 = .ok (.ifCond .ne 7, 3) := dk_154 (by decide +kernel)
theorem dX8_then_61 : decode cX8_then 61 = .ok (.iload_n 3, 1) := dk_29 (by decide +kernel)
theorem dX8_then_62 : decode cX8_then 62 = .ok (.iconst 1, 1) := dk_4 (by decide +kernel)
theorem dX8_then_63 : decode cX8_then 63 = .ok (.if_icmp .ne 7, 3) := dk_160 (by decide +kernel)
theorem dX8_then_70 : decode cX8_then 70 = .ok (.bipush 6, 2) := dk_16 (by decide +kernel)
theorem dX8_then_72 : decode cX8_then 72 = .ok (.invokevirtual 65, 3) := dk_182 (by decide +kernel)
theorem dX8_then_75 : decode cX8_then 75 = .ok (.istore 4, 2) := dk_54 (by decide +kernel)
theorem dX8_then_77 : decode cX8_then 77 = .ok (.aload_n 0, 1) := dk_42 (by decide +kernel)
theorem dX8_then_78 : decode cX8_then 78 = .ok (.aload_n 0, 1) := dk_42 (by decide +kernel)
theorem dX8_then_79 : decode cX8_then 79 = .ok (.getfield 16, 3) := dk_180 (by decide +kernel)
theorem dX8_then_82 : decode cX8_then 82 = .ok (.aload_n 0, 1) := dk_42 (by decide +kernel)
theorem dX8_then_83 : decode cX8_then 83 = .ok (.getfield 7, 3) := dk_180 (by decide +kernel)
theorem dX8_then_86 : decode cX8_then 86 = .ok (.invokevirtual 175, 3) := dk_182 (by decide +kernel)
theorem dX8_then_89 : decode cX8_then 89 = .ok (.iload 4, 2) := dk_21 (by decide +kernel)
theorem dX8_then_91 : decode cX8_then 91 = .ok (.ireturn, 1) := dk_172 (by decide +kernel)
theorem dX8_then_66 : decode cX8_then 66 = .ok (.iconst 5, 1) := dk_8 (by decide +kernel)
theorem dX8_then_67 : decode cX8_then 67 = .ok (.goto 5, 3) := dk_167 (by decide +kernel)
theorem dX8_then_57 : decode cX8_then 57 = .ok (.iconst 3, 1) := dk_6 (by decide +kernel)
theorem dX8_then_58 : decode cX8_then 58 = .ok (.goto 14, 3) := dk_167 (by decide +kernel)
set_option maxRecDepth 100000 in
set_option maxHeartbeats 8000000 in
theorem x_X8_then (l : Launch) (D : va_G) (y : wY) (ad : Nat → Nat) (i1 : Int32) (i2 : Int32) (i3 : Int32) (M : Mem) (K : Int32 → Mem → Prop) (h : wp_X8_then i1 i2 i3 M K) : MI l D y ad yX8_then (Cond.code yX8_then cX8_then 5 (some .int)) 7 M [.ref (ad 79), .int i1, .int i2, .int i3] K := by
  refine MI_of (by decide) (Nat.le_of_ble_eq_true rfl) ?_
  intro p e s m args below meth c X hr hlocks
  delta wp_X8_then at h
  refine j_lv (lv1 := [(0, .ref (ad 79)), (1, .int i1), (2, .int i2), (3, .int i3)]) [0, 1, 2, 3] rfl ?_
  refine j_iload_n X 1 rfl rfl dX8_then_0 ?_
  refine j_iconst X (v := 0) (by decide) dX8_then_1 ?_
  refine j_bipush X (v := 60) (by decide) dX8_then_2 ?_
  refine j_callSI X (nn := 3) (As := [.int i1, .int 0, .int 60]) (st := []) aw_134 (x_X8_in l D y ad i1 0 60 _ _ h) aw_133 aw_135 aw_5 (by decide +kernel) ⟨Nat.le_of_ble_eq_true rfl, Nat.le_of_ble_eq_true rfl⟩ rfl (Nat.le_of_ble_eq_true rfl) ⟨Nat.le_of_ble_eq_true rfl, Nat.le_of_ble_eq_true rfl⟩ dX8_then_4 ?_
  intro r1 M1 h
  refine j_if_eq X 27 (by decide) dX8_then_7 (fun q_2 => ?_) (fun q_2 => ?_)
  · replace h := h.1 q_2
    refine j_aload_n X 0 rfl rfl dX8_then_27 ?_
    refine j_ldc X (v := (-1000000001)) aw_132 dX8_then_28 ?_
    refine j_callVI X (nn := 1) (As := [.int (-1000000001)]) (st := []) (ci := 8) cl_79.1 (wE_8 _ cl_79.2) rfl aw_144 aw_145 (x_X8_errs l D y ad (-1000000001) _ _ h) aw_143 aw_146 aw_5 (by decide +kernel) ⟨Nat.le_of_ble_eq_true rfl, Nat.le_of_ble_eq_true rfl⟩ rfl (Nat.le_of_ble_eq_true rfl) ⟨Nat.le_of_ble_eq_true rfl, Nat.le_of_ble_eq_true rfl⟩ dX8_then_30 ?_
    intro r3 M3 h
    exact j_iret X hr hlocks dX8_then_33 h
  · replace h := h.2 q_2
    refine j_aload_n X 0 rfl rfl dX8_then_10 ?_
    refine j_iload_n X 2 rfl rfl dX8_then_11 ?_
    refine j_callVI X (nn := 1) (As := [.int i2]) (st := []) (ci := 8) cl_79.1 (wE_8 _ cl_79.2) rfl aw_231 aw_232 (x_X8_isQuarrel l D y ad i2 _ _ h) aw_230 aw_233 aw_5 (by decide +kernel) ⟨Nat.le_of_ble_eq_true rfl, Nat.le_of_ble_eq_true rfl⟩ rfl (Nat.le_of_ble_eq_true rfl) ⟨Nat.le_of_ble_eq_true rfl, Nat.le_of_ble_eq_true rfl⟩ dX8_then_12 ?_
    intro r4 M4 h
    refine j_if_eq X 27 (by decide) dX8_then_15 (fun q_5 => ?_) (fun q_5 => ?_)
    · replace h := h.1 q_5
      refine j_aload_n X 0 rfl rfl dX8_then_27 ?_
      refine j_ldc X (v := (-1000000001)) aw_132 dX8_then_28 ?_
      refine j_callVI X (nn := 1) (As := [.int (-1000000001)]) (st := []) (ci := 8) cl_79.1 (wE_8 _ cl_79.2) rfl aw_144 aw_145 (x_X8_errs l D y ad (-1000000001) _ _ h) aw_143 aw_146 aw_5 (by decide +kernel) ⟨Nat.le_of_ble_eq_true rfl, Nat.le_of_ble_eq_true rfl⟩ rfl (Nat.le_of_ble_eq_true rfl) ⟨Nat.le_of_ble_eq_true rfl, Nat.le_of_ble_eq_true rfl⟩ dX8_then_30 ?_
      intro r6 M6 h
      exact j_iret X hr hlocks dX8_then_33 h
    · replace h := h.2 q_5
      refine j_iload_n X 3 rfl rfl dX8_then_18 ?_
      refine j_iconst X (v := 0) (by decide) dX8_then_19 ?_
      refine j_iconst X (v := 2) (by decide) dX8_then_20 ?_
      refine j_callSI X (nn := 3) (As := [.int i3, .int 0, .int 2]) (st := []) aw_134 (x_X8_in l D y ad i3 0 2 _ _ h) aw_133 aw_135 aw_5 (by decide +kernel) ⟨Nat.le_of_ble_eq_true rfl, Nat.le_of_ble_eq_true rfl⟩ rfl (Nat.le_of_ble_eq_true rfl) ⟨Nat.le_of_ble_eq_true rfl, Nat.le_of_ble_eq_true rfl⟩ dX8_then_21 ?_
      intro r7 M7 h
      refine j_if_ne X 34 (by decide) dX8_then_24 (fun q_8 => ?_) (fun q_8 => ?_)
      · replace h := h.1 q_8
        refine j_aload_n X 0 rfl rfl dX8_then_34 ?_
        refine j_aload_n X 0 rfl rfl dX8_then_35 ?_
        refine j_get X cl_79.1 (wE_8 _ cl_79.2) rfl awF8 0 (by decide) aw_92 rfl (v := .ref (ad 80)) rfl dX8_then_36 ?_
        refine j_aload_n X 0 rfl rfl dX8_then_39 ?_
        refine j_get X cl_79.1 (wE_8 _ cl_79.2) rfl awF8 2 (by decide) aw_94 rfl (v := .ref (ad 82)) rfl dX8_then_40 ?_
        refine j_callVV X (nn := 2) (As := [.ref (ad 80), .ref (ad 82)]) (st := []) (ci := 8) cl_79.1 (wE_8 _ cl_79.2) rfl aw_553 aw_554 (x_X8_moveAll l D y ad 80 82 cl_80 cl_82 _ _ h) aw_552 aw_555 aw_5 (by decide +kernel) ⟨Nat.le_of_ble_eq_true rfl, Nat.le_of_ble_eq_true rfl⟩ rfl (Nat.le_of_ble_eq_true rfl) ⟨Nat.le_of_ble_eq_true rfl, Nat.le_of_ble_eq_true rfl⟩ dX8_then_43 ?_
        intro M9 h
        refine j_aload_n X 0 rfl rfl dX8_then_46 ?_
        refine j_iload_n X 1 rfl rfl dX8_then_47 ?_
        refine j_callVV X (nn := 1) (As := [.int i1]) (st := []) (ci := 8) cl_79.1 (wE_8 _ cl_79.2) rfl aw_482 aw_483 (x_X8_passes l D y ad i1 _ _ h) aw_481 aw_484 aw_5 (by decide +kernel) ⟨Nat.le_of_ble_eq_true rfl, Nat.le_of_ble_eq_true rfl⟩ rfl (Nat.le_of_ble_eq_true rfl) ⟨Nat.le_of_ble_eq_true rfl, Nat.le_of_ble_eq_true rfl⟩ dX8_then_48 ?_
        intro M10 h
        refine j_aload_n X 0 rfl rfl dX8_then_51 ?_
        refine j_iload_n X 2 rfl rfl dX8_then_52 ?_
        refine j_iload_n X 3 rfl rfl dX8_then_53 ?_
        refine j_if_ne X 61 (by decide) dX8_then_54 (fun q_11 => ?_) (fun q_11 => ?_)
        · replace h := h.1 q_11
          refine j_iload_n X 3 rfl rfl dX8_then_61 ?_
          refine j_iconst X (v := 1) (by decide) dX8_then_62 ?_
          refine j_icmp_ne X 70 (by decide) dX8_then_63 (fun q_12 => ?_) (fun q_12 => ?_)
          · replace h := h.1 q_12
            refine j_bipush X (v := 6) (by decide) dX8_then_70 ?_
            refine j_callVI X (nn := 2) (As := [.int i2, .int 6]) (st := []) (ci := 8) cl_79.1 (wE_8 _ cl_79.2) rfl aw_161 aw_162 (x_X8_its l D y ad i2 6 _ _ h) aw_160 aw_163 aw_5 (by decide +kernel) ⟨Nat.le_of_ble_eq_true rfl, Nat.le_of_ble_eq_true rfl⟩ rfl (Nat.le_of_ble_eq_true rfl) ⟨Nat.le_of_ble_eq_true rfl, Nat.le_of_ble_eq_true rfl⟩ dX8_then_72 ?_
            intro r13 M13 h
            refine j_istore X [(4, .int r13), (0, .ref (ad 79)), (1, .int i1), (2, .int i2), (3, .int i3)] (by decide) rfl dX8_then_75 ?_
            refine j_aload_n X 1 rfl rfl dX8_then_77 ?_
            refine j_aload_n X 1 rfl rfl dX8_then_78 ?_
            refine j_get X cl_79.1 (wE_8 _ cl_79.2) rfl awF8 2 (by decide) aw_94 rfl (v := .ref (ad 82)) rfl dX8_then_79 ?_
            refine j_aload_n X 1 rfl rfl dX8_then_82 ?_
            refine j_get X cl_79.1 (wE_8 _ cl_79.2) rfl awF8 0 (by decide) aw_92 rfl (v := .ref (ad 80)) rfl dX8_then_83 ?_
            refine j_callVV X (nn := 2) (As := [.ref (ad 82), .ref (ad 80)]) (st := []) (ci := 8) cl_79.1 (wE_8 _ cl_79.2) rfl aw_553 aw_554 (x_X8_moveAll l D y ad 82 80 cl_82 cl_80 _ _ h) aw_552 aw_555 aw_5 (by decide +kernel) ⟨Nat.le_of_ble_eq_true rfl, Nat.le_of_ble_eq_true rfl⟩ rfl (Nat.le_of_ble_eq_true rfl) ⟨Nat.le_of_ble_eq_true rfl, Nat.le_of_ble_eq_true rfl⟩ dX8_then_86 ?_
            intro M14 h
            refine j_iload X 0 rfl dX8_then_89 ?_
            exact j_iret X hr hlocks dX8_then_91 h
          · replace h := h.2 q_12
            refine j_iconst X (v := 5) (by decide) dX8_then_66 ?_
            refine j_goto X 72 (by decide) dX8_then_67 ?_
            refine j_callVI X (nn := 2) (As := [.int i2, .int 5]) (st := []) (ci := 8) cl_79.1 (wE_8 _ cl_79.2) rfl aw_161 aw_162 (x_X8_its l D y ad i2 5 _ _ h) aw_160 aw_163 aw_5 (by decide +kernel) ⟨Nat.le_of_ble_eq_true rfl, Nat.le_of_ble_eq_true rfl⟩ rfl (Nat.le_of_ble_eq_true rfl) ⟨Nat.le_of_ble_eq_true rfl, Nat.le_of_ble_eq_true rfl⟩ dX8_then_72 ?_
            intro r15 M15 h
            refine j_istore X [(4, .int r15), (0, .ref (ad 79)), (1, .int i1), (2, .int i2), (3, .int i3)] (by decide) rfl dX8_then_75 ?_
            refine j_aload_n X 1 rfl rfl dX8_then_77 ?_
            refine j_aload_n X 1 rfl rfl dX8_then_78 ?_
            refine j_get X cl_79.1 (wE_8 _ cl_79.2) rfl awF8 2 (by decide) aw_94 rfl (v := .ref (ad 82)) rfl dX8_then_79 ?_
            refine j_aload_n X 1 rfl rfl dX8_then_82 ?_
            refine j_get X cl_79.1 (wE_8 _ cl_79.2) rfl awF8 0 (by decide) aw_92 rfl (v := .ref (ad 80)) rfl dX8_then_83 ?_
            refine j_callVV X (nn := 2) (As := [.ref (ad 82), .ref (ad 80)]) (st := []) (ci := 8) cl_79.1 (wE_8 _ cl_79.2) rfl aw_553 aw_554 (x_X8_moveAll l D y ad 82 80 cl_82 cl_80 _ _ h) aw_552 aw_555 aw_5 (by decide +kernel) ⟨Nat.le_of_ble_eq_true rfl, Nat.le_of_ble_eq_true rfl⟩ rfl (Nat.le_of_ble_eq_true rfl) ⟨Nat.le_of_ble_eq_true rfl, Nat.le_of_ble_eq_true rfl⟩ dX8_then_86 ?_
            intro M16 h
            refine j_iload X 0 rfl dX8_then_89 ?_
            exact j_iret X hr hlocks dX8_then_91 h
        · replace h := h.2 q_11
          refine j_iconst X (v := 3) (by decide) dX8_then_57 ?_
          refine j_goto X 72 (by decide) dX8_then_58 ?_
          refine j_callVI X (nn := 2) (As := [.int i2, .int 3]) (st := []) (ci := 8) cl_79.1 (wE_8 _ cl_79.2) rfl aw_161 aw_162 (x_X8_its l D y ad i2 3 _ _ h) aw_160 aw_163 aw_5 (by decide +kernel) ⟨Nat.le_of_ble_eq_true rfl, Nat.le_of_ble_eq_true rfl⟩ rfl (Nat.le_of_ble_eq_true rfl) ⟨Nat.le_of_ble_eq_true rfl, Nat.le_of_ble_eq_true rfl⟩ dX8_then_72 ?_
          intro r17 M17 h
          refine j_istore X [(4, .int r17), (0, .ref (ad 79)), (1, .int i1), (2, .int i2), (3, .int i3)] (by decide) rfl dX8_then_75 ?_
          refine j_aload_n X 1 rfl rfl dX8_then_77 ?_
          refine j_aload_n X 1 rfl rfl dX8_then_78 ?_
          refine j_get X cl_79.1 (wE_8 _ cl_79.2) rfl awF8 2 (by decide) aw_94 rfl (v := .ref (ad 82)) rfl dX8_then_79 ?_
          refine j_aload_n X 1 rfl rfl dX8_then_82 ?_
          refine j_get X cl_79.1 (wE_8 _ cl_79.2) rfl awF8 0 (by decide) aw_92 rfl (v := .ref (ad 80)) rfl dX8_then_83 ?_
          refine j_callVV X (nn := 2) (As := [.ref (ad 82), .ref (ad 80)]) (st := []) (ci := 8) cl_79.1 (wE_8 _ cl_79.2) rfl aw_553 aw_554 (x_X8_moveAll l D y ad 82 80 cl_82 cl_80 _ _ h) aw_552 aw_555 aw_5 (by decide +kernel) ⟨Nat.le_of_ble_eq_true rfl, Nat.le_of_ble_eq_true rfl⟩ rfl (Nat.le_of_ble_eq_true rfl) ⟨Nat.le_of_ble_eq_true rfl, Nat.le_of_ble_eq_true rfl⟩ dX8_then_86 ?_
          intro M18 h
          refine j_iload X 0 rfl dX8_then_89 ?_
          exact j_iret X hr hlocks dX8_then_91 h
      · replace h := h.2 q_8
        refine j_aload_n X 0 rfl rfl dX8_then_27 ?_
        refine j_ldc X (v := (-1000000001)) aw_132 dX8_then_28 ?_
        refine j_callVI X (nn := 1) (As := [.int (-1000000001)]) (st := []) (ci := 8) cl_79.1 (wE_8 _ cl_79.2) rfl aw_144 aw_145 (x_X8_errs l D y ad (-1000000001) _ _ h) aw_143 aw_146 aw_5 (by decide +kernel) ⟨Nat.le_of_ble_eq_true rfl, Nat.le_of_ble_eq_true rfl⟩ rfl (Nat.le_of_ble_eq_true rfl) ⟨Nat.le_of_ble_eq_true rfl, Nat.le_of_ble_eq_true rfl⟩ dX8_then_30 ?_
        intro r19 M19 h
        exact j_iret X hr hlocks dX8_then_33 h
theorem dX8_when_29 : decode cX8_when 29 = .ok (.iload_n 2, 1) := dk_28 (by decide +kernel)
theorem dX8_when_30 : decode cX8_when 30 = .ok (.bipush 60, 2) := dk_16 (by decide +kernel)
theorem dX8_when_32 : decode cX8_when 32 = .ok (.if_icmp .gt 22, 3) := dk_163 (by decide +kernel)
theorem dX8_when_54 : decode cX8_when 54 = .ok (.aload_n 0, 1) := dk_42 (by decide +kernel)
theorem dX8_when_55 : decode cX8_when 55 = .ok (.aload_n 0, 1) := dk_42 (by decide +kernel)
theorem dX8_when_56 : decode cX8_when 56 = .ok (.getfield 16, 3) := dk_180 (by decide +kernel)
theorem dX8_when_59 : decode cX8_when 59 = .ok (.aload_n 0, 1) := dk_42 (by decide +kernel)
theorem dX8_when_60 : decode cX8_when 60 = .ok (.getfield 7, 3) := dk_180 (by decide +kernel)
theorem dX8_when_63 : decode cX8_when 63 = .ok (.invokevirtual 175, 3) := dk_182 (by decide +kernel)
theorem dX8_when_66 : decode cX8_when 66 = .ok (.iload_n 2, 1) := dk_28 (by decide +kernel)
theorem dX8_when_67 : decode cX8_when 67 = .ok (.bipush 60, 2) := dk_16 (by decide +kernel)
theorem dX8_when_69 : decode cX8_when 69 = .ok (.if_icmp .le 12, 3) := dk_164 (by decide +kernel)
theorem dX8_when_81 : decode cX8_when 81 = .ok (.iload_n 2, 1) := dk_28 (by decide +kernel)
theorem dX8_when_82 : decode cX8_when 82 = .ok (.ireturn, 1) := dk_172 (by decide +kernel)
theorem dX8_when_72 : decode cX8_when 72 = .ok (.aload_n 0, 1) := dk_42 (by decide +kernel)
theorem dX8_when_73 : decode cX8_when 73 = .ok (.ldc 194, 2) := dk_18 (by decide +kernel)
theorem dX8_when_75 : decode cX8_when 75 = .ok (.invokevirtual 61, 3) := dk_182 (by decide +kernel)
theorem dX8_when_78 : decode cX8_when 78 = .ok (.goto 4, 3) := dk_167 (by decide +kernel)
theorem dX8_when_35 : decode cX8_when 35 = .ok (.aload_n 0, 1) := dk_42 (by decide +kernel)
theorem dX8_when_36 : decode cX8_when 36 = .ok (.iload_n 1, 1) := dk_27 (by decide +kernel)
theorem dX8_when_37 : decode cX8_when 37 = .ok (.invokevirtual 159, 3) := dk_182 (by decide +kernel)
theorem dX8_when_40 : decode cX8_when 40 = .ok (.ifCond .ne 14, 3) := dk_154 (by decide +kernel)
theorem dX8_when_43 : decode cX8_when 43 = .ok (.aload_n 0, 1) := dk_42 (by decide +kernel)
theorem dX8_when_44 : decode cX8_when 44 = .ok (.iconst 1, 1) := dk_4 (by decide +kernel)
theorem dX8_when_45 : decode cX8_when 45 = .ok (.invokevirtual 171, 3) := dk_182 (by decide +kernel)
theorem dX8_when_48 : decode cX8_when 48 = .ok (.iinc 2 1, 3) := dk_132 (by decide +kernel)
theorem dX8_when_51 : decode cX8_when 51 = .ok (.goto (-22), 3) := dk_167 (by decide +kernel)
theorem dX8_when_0 : decode cX8_when 0 = .ok (.aload_n 0, 1) := dk_42 (by decide +kernel)
theorem dX8_when_1 : decode cX8_when 1 = .ok (.iload_n 1, 1) := dk_27 (by decide +kernel)
theorem dX8_when_2 : decode cX8_when 2 = .ok (.invokevirtual 73, 3) := dk_182 (by decide +kernel)
theorem dX8_when_5 : decode cX8_when 5 = .ok (.ifCond .ne 10, 3) := dk_154 (by decide +kernel)
theorem dX8_when_15 : decode cX8_when 15 = .ok (.aload_n 0, 1) := dk_42 (by decide +kernel)
theorem dX8_when_16 : decode cX8_when 16 = .ok (.aload_n 0, 1) := dk_42 (by decide +kernel)
theorem dX8_when_17 : decode cX8_when 17 = .ok (.getfield 7, 3) := dk_180 (by decide +kernel)
theorem dX8_when_20 : decode cX8_when 20 = .ok (.aload_n 0, 1) := dk_42 (by decide +kernel)
theorem dX8_when_21 : decode cX8_when 21 = .ok (.getfield 16, 3) := dk_180 (by decide +kernel)
theorem dX8_when_24 : decode cX8_when 24 = .ok (.invokevirtual 175, 3) := dk_182 (by decide +kernel)
theorem dX8_when_27 : decode cX8_when 27 = .ok (.iconst 0, 1) := dk_3 (by decide +kernel)
theorem dX8_when_28 : decode cX8_when 28 = .ok (.istore_n 2, 1) := dk_61 (by decide +kernel)
theorem dX8_when_8 : decode cX8_when 8 = .ok (.aload_n 0, 1) := dk_42 (by decide +kernel)
theorem dX8_when_9 : decode cX8_when 9 = .ok (.ldc 60, 2) := dk_18 (by decide +kernel)
theorem dX8_when_11 : decode cX8_when 11 = .ok (.invokevirtual 61, 3) := dk_182 (by decide +kernel)
theorem dX8_when_14 : decode cX8_when 14 = .ok (.ireturn, 1) := dk_172 (by decide +kernel)
set_option maxRecDepth 100000 in
set_option maxHeartbeats 8000000 in
theorem x_X8_when (l : Launch) (D : va_G) (y : wY) (ad : Nat → Nat) (i1 : Int32) (M : Mem) (K : Int32 → Mem → Prop) (h : wp_X8_when i1 M K) : MI l D y ad yX8_when (Cond.code yX8_when cX8_when 3 (some .int)) 6 M [.ref (ad 79), .int i1] K := by
  refine MI_of (by decide) (Nat.le_of_ble_eq_true rfl) ?_
  intro p e s m args below meth c X hr hlocks
  have hL29 : ∀ (i1 : Int32) (n : Nat) (i2 : Int32) (Mb : Mem), wp_X8_when_L29 K i1 n i2 Mb → J p l e (rmN 6) s m args below meth c 0 0 (QI K D y ad M s args below) D y ad (va_A (PL y ad M) s.heap.size) 3 Mb 29 [(0, .ref (ad 79)), (1, .int i1), (2, .int i2)] [] := by
    intro i1 n
    induction n with
    | zero => intro i2 Mb h; exact False.elim h
    | succ n hB29 =>
      intro i2 Mb h
      replace h : wp_X8_when_l29 K i1 (wp_X8_when_L29 K i1 n) i2 Mb := h
      delta wp_X8_when_l29 at h
      refine j_iload_n X 2 rfl rfl dX8_when_29 ?_
      refine j_bipush X (v := 60) (by decide) dX8_when_30 ?_
      refine j_icmp_gt X 54 (by decide) dX8_when_32 (fun q_2901 => ?_) (fun q_2901 => ?_)
      · replace h := h.1 q_2901
        refine j_aload_n X 0 rfl rfl dX8_when_54 ?_
        refine j_aload_n X 0 rfl rfl dX8_when_55 ?_
        refine j_get X cl_79.1 (wE_8 _ cl_79.2) rfl awF8 2 (by decide) aw_94 rfl (v := .ref (ad 82)) rfl dX8_when_56 ?_
        refine j_aload_n X 0 rfl rfl dX8_when_59 ?_
        refine j_get X cl_79.1 (wE_8 _ cl_79.2) rfl awF8 0 (by decide) aw_92 rfl (v := .ref (ad 80)) rfl dX8_when_60 ?_
        refine j_callVV X (nn := 2) (As := [.ref (ad 82), .ref (ad 80)]) (st := []) (ci := 8) cl_79.1 (wE_8 _ cl_79.2) rfl aw_553 aw_554 (x_X8_moveAll l D y ad 82 80 cl_82 cl_80 _ _ h) aw_552 aw_555 aw_5 (by decide +kernel) ⟨Nat.le_of_ble_eq_true rfl, Nat.le_of_ble_eq_true rfl⟩ rfl (Nat.le_of_ble_eq_true rfl) ⟨Nat.le_of_ble_eq_true rfl, Nat.le_of_ble_eq_true rfl⟩ dX8_when_63 ?_
        intro M2902 h
        refine j_iload_n X 2 rfl rfl dX8_when_66 ?_
        refine j_bipush X (v := 60) (by decide) dX8_when_67 ?_
        refine j_icmp_le X 81 (by decide) dX8_when_69 (fun q_2903 => ?_) (fun q_2903 => ?_)
        · replace h := h.1 q_2903
          refine j_iload_n X 2 rfl rfl dX8_when_81 ?_
          exact j_iret X hr hlocks dX8_when_82 h
        · replace h := h.2 q_2903
          refine j_aload_n X 0 rfl rfl dX8_when_72 ?_
          refine j_ldc X (v := (-1000000002)) aw_565 dX8_when_73 ?_
          refine j_callVI X (nn := 1) (As := [.int (-1000000002)]) (st := []) (ci := 8) cl_79.1 (wE_8 _ cl_79.2) rfl aw_144 aw_145 (x_X8_errs l D y ad (-1000000002) _ _ h) aw_143 aw_146 aw_5 (by decide +kernel) ⟨Nat.le_of_ble_eq_true rfl, Nat.le_of_ble_eq_true rfl⟩ rfl (Nat.le_of_ble_eq_true rfl) ⟨Nat.le_of_ble_eq_true rfl, Nat.le_of_ble_eq_true rfl⟩ dX8_when_75 ?_
          intro r2904 M2904 h
          refine j_goto X 82 (by decide) dX8_when_78 ?_
          exact j_iret X hr hlocks dX8_when_82 h
      · replace h := h.2 q_2901
        refine j_aload_n X 0 rfl rfl dX8_when_35 ?_
        refine j_iload_n X 1 rfl rfl dX8_when_36 ?_
        refine j_callVI X (nn := 1) (As := [.int i1]) (st := []) (ci := 8) cl_79.1 (wE_8 _ cl_79.2) rfl aw_494 aw_495 (x_X8_isOver l D y ad i1 _ _ h) aw_493 aw_496 aw_5 (by decide +kernel) ⟨Nat.le_of_ble_eq_true rfl, Nat.le_of_ble_eq_true rfl⟩ rfl (Nat.le_of_ble_eq_true rfl) ⟨Nat.le_of_ble_eq_true rfl, Nat.le_of_ble_eq_true rfl⟩ dX8_when_37 ?_
        intro r2905 M2905 h
        refine j_if_ne X 54 (by decide) dX8_when_40 (fun q_2906 => ?_) (fun q_2906 => ?_)
        · replace h := h.1 q_2906
          refine j_aload_n X 0 rfl rfl dX8_when_54 ?_
          refine j_aload_n X 0 rfl rfl dX8_when_55 ?_
          refine j_get X cl_79.1 (wE_8 _ cl_79.2) rfl awF8 2 (by decide) aw_94 rfl (v := .ref (ad 82)) rfl dX8_when_56 ?_
          refine j_aload_n X 0 rfl rfl dX8_when_59 ?_
          refine j_get X cl_79.1 (wE_8 _ cl_79.2) rfl awF8 0 (by decide) aw_92 rfl (v := .ref (ad 80)) rfl dX8_when_60 ?_
          refine j_callVV X (nn := 2) (As := [.ref (ad 82), .ref (ad 80)]) (st := []) (ci := 8) cl_79.1 (wE_8 _ cl_79.2) rfl aw_553 aw_554 (x_X8_moveAll l D y ad 82 80 cl_82 cl_80 _ _ h) aw_552 aw_555 aw_5 (by decide +kernel) ⟨Nat.le_of_ble_eq_true rfl, Nat.le_of_ble_eq_true rfl⟩ rfl (Nat.le_of_ble_eq_true rfl) ⟨Nat.le_of_ble_eq_true rfl, Nat.le_of_ble_eq_true rfl⟩ dX8_when_63 ?_
          intro M2907 h
          refine j_iload_n X 2 rfl rfl dX8_when_66 ?_
          refine j_bipush X (v := 60) (by decide) dX8_when_67 ?_
          refine j_icmp_le X 81 (by decide) dX8_when_69 (fun q_2908 => ?_) (fun q_2908 => ?_)
          · replace h := h.1 q_2908
            refine j_iload_n X 2 rfl rfl dX8_when_81 ?_
            exact j_iret X hr hlocks dX8_when_82 h
          · replace h := h.2 q_2908
            refine j_aload_n X 0 rfl rfl dX8_when_72 ?_
            refine j_ldc X (v := (-1000000002)) aw_565 dX8_when_73 ?_
            refine j_callVI X (nn := 1) (As := [.int (-1000000002)]) (st := []) (ci := 8) cl_79.1 (wE_8 _ cl_79.2) rfl aw_144 aw_145 (x_X8_errs l D y ad (-1000000002) _ _ h) aw_143 aw_146 aw_5 (by decide +kernel) ⟨Nat.le_of_ble_eq_true rfl, Nat.le_of_ble_eq_true rfl⟩ rfl (Nat.le_of_ble_eq_true rfl) ⟨Nat.le_of_ble_eq_true rfl, Nat.le_of_ble_eq_true rfl⟩ dX8_when_75 ?_
            intro r2909 M2909 h
            refine j_goto X 82 (by decide) dX8_when_78 ?_
            exact j_iret X hr hlocks dX8_when_82 h
        · replace h := h.2 q_2906
          refine j_aload_n X 0 rfl rfl dX8_when_43 ?_
          refine j_iconst X (v := 1) (by decide) dX8_when_44 ?_
          refine j_callVV X (nn := 1) (As := [.int 1]) (st := []) (ci := 8) cl_79.1 (wE_8 _ cl_79.2) rfl aw_486 aw_487 (x_X8_oneDay l D y ad 1 _ _ h) aw_485 aw_488 aw_5 (by decide +kernel) ⟨Nat.le_of_ble_eq_true rfl, Nat.le_of_ble_eq_true rfl⟩ rfl (Nat.le_of_ble_eq_true rfl) ⟨Nat.le_of_ble_eq_true rfl, Nat.le_of_ble_eq_true rfl⟩ dX8_when_45 ?_
          intro M2910 h
          refine j_iinc X (v := (i2 + 1)) 2 [(2, .int (i2 + 1)), (0, .ref (ad 79)), (1, .int i1)] rfl rfl (by decide) rfl dX8_when_48 ?_
          refine j_goto X 29 (by decide) dX8_when_51 ?_
          refine j_lv (lv1 := [(0, .ref (ad 79)), (1, .int i1), (2, .int (i2 + 1))]) [1, 2, 0] rfl ?_
          exact hB29 _ _ h
  delta wp_X8_when at h
  refine j_lv (lv1 := [(0, .ref (ad 79)), (1, .int i1)]) [0, 1] rfl ?_
  refine j_aload_n X 0 rfl rfl dX8_when_0 ?_
  refine j_iload_n X 1 rfl rfl dX8_when_1 ?_
  refine j_callVI X (nn := 1) (As := [.int i1]) (st := []) (ci := 8) cl_79.1 (wE_8 _ cl_79.2) rfl aw_231 aw_232 (x_X8_isQuarrel l D y ad i1 _ _ h) aw_230 aw_233 aw_5 (by decide +kernel) ⟨Nat.le_of_ble_eq_true rfl, Nat.le_of_ble_eq_true rfl⟩ rfl (Nat.le_of_ble_eq_true rfl) ⟨Nat.le_of_ble_eq_true rfl, Nat.le_of_ble_eq_true rfl⟩ dX8_when_2 ?_
  intro r1 M1 h
  refine j_if_ne X 15 (by decide) dX8_when_5 (fun q_2 => ?_) (fun q_2 => ?_)
  · replace h := h.1 q_2
    refine j_aload_n X 0 rfl rfl dX8_when_15 ?_
    refine j_aload_n X 0 rfl rfl dX8_when_16 ?_
    refine j_get X cl_79.1 (wE_8 _ cl_79.2) rfl awF8 0 (by decide) aw_92 rfl (v := .ref (ad 80)) rfl dX8_when_17 ?_
    refine j_aload_n X 0 rfl rfl dX8_when_20 ?_
    refine j_get X cl_79.1 (wE_8 _ cl_79.2) rfl awF8 2 (by decide) aw_94 rfl (v := .ref (ad 82)) rfl dX8_when_21 ?_
    refine j_callVV X (nn := 2) (As := [.ref (ad 80), .ref (ad 82)]) (st := []) (ci := 8) cl_79.1 (wE_8 _ cl_79.2) rfl aw_553 aw_554 (x_X8_moveAll l D y ad 80 82 cl_80 cl_82 _ _ h) aw_552 aw_555 aw_5 (by decide +kernel) ⟨Nat.le_of_ble_eq_true rfl, Nat.le_of_ble_eq_true rfl⟩ rfl (Nat.le_of_ble_eq_true rfl) ⟨Nat.le_of_ble_eq_true rfl, Nat.le_of_ble_eq_true rfl⟩ dX8_when_24 ?_
    intro M3 h
    refine j_iconst X (v := 0) (by decide) dX8_when_27 ?_
    refine j_istore_n X [(2, .int 0), (0, .ref (ad 79)), (1, .int i1)] rfl (by decide) rfl dX8_when_28 ?_
    refine j_lv (lv1 := [(0, .ref (ad 79)), (1, .int i1), (2, .int 0)]) [1, 2, 0] rfl ?_
    obtain ⟨n29, h⟩ := h
    exact hL29 _   n29 _ _ h
  · replace h := h.2 q_2
    refine j_aload_n X 0 rfl rfl dX8_when_8 ?_
    refine j_ldc X (v := (-1000000001)) aw_132 dX8_when_9 ?_
    refine j_callVI X (nn := 1) (As := [.int (-1000000001)]) (st := []) (ci := 8) cl_79.1 (wE_8 _ cl_79.2) rfl aw_144 aw_145 (x_X8_errs l D y ad (-1000000001) _ _ h) aw_143 aw_146 aw_5 (by decide +kernel) ⟨Nat.le_of_ble_eq_true rfl, Nat.le_of_ble_eq_true rfl⟩ rfl (Nat.le_of_ble_eq_true rfl) ⟨Nat.le_of_ble_eq_true rfl, Nat.le_of_ble_eq_true rfl⟩ dX8_when_11 ?_
    intro r4 M4 h
    exact j_iret X hr hlocks dX8_when_14 h
theorem dX8_ended_0 : decode cX8_ended 0 = .ok (.iload_n 1, 1) := dk_27 (by decide +kernel)
theorem dX8_ended_1 : decode cX8_ended 1 = .ok (.iconst 0, 1) := dk_3 (by decide +kernel)
theorem dX8_ended_2 : decode cX8_ended 2 = .ok (.bipush 60, 2) := dk_16 (by decide +kernel)
theorem dX8_ended_4 : decode cX8_ended 4 = .ok (.invokestatic 47, 3) := dk_184 (by decide +kernel)
theorem dX8_ended_7 : decode cX8_ended 7 = .ok (.ifCond .eq 11, 3) := dk_153 (by decide +kernel)
theorem dX8_ended_18 : decode cX8_ended 18 = .ok (.aload_n 0, 1) := dk_42 (by decide +kernel)
theorem dX8_ended_19 : decode cX8_ended 19 = .ok (.ldc 60, 2) := dk_18 (by decide +kernel)
theorem dX8_ended_21 : decode cX8_ended 21 = .ok (.invokevirtual 61, 3) := dk_182 (by decide +kernel)
theorem dX8_ended_24 : decode cX8_ended 24 = .ok (.ireturn, 1) := dk_172 (by decide +kernel)
theorem dX8_ended_10 : decode cX8_ended 10 = .ok (.aload_n 0, 1) := dk_42 (by decide +kernel)
theorem dX8_ended_11 : decode cX8_ended 11 = .ok (.iload_n 1, 1) := dk_27 (by decide +kernel)
theorem dX8_ended_12 : decode cX8_ended 12 = .ok (.invokevirtual 195, 3) := dk_182 (by decide +kernel)
theorem dX8_ended_15 : decode cX8_ended 15 = .ok (.goto 9, 3) := dk_167 (by decide +kernel)
set_option maxRecDepth 100000 in
set_option maxHeartbeats 8000000 in
theorem x_X8_ended (l : Launch) (D : va_G) (y : wY) (ad : Nat → Nat) (i1 : Int32) (M : Mem) (K : Int32 → Mem → Prop) (h : wp_X8_ended i1 M K) : MI l D y ad yX8_ended (Cond.code yX8_ended cX8_ended 2 (some .int)) 8 M [.ref (ad 79), .int i1] K := by
  refine MI_of (by decide) (Nat.le_of_ble_eq_true rfl) ?_
  intro p e s m args below meth c X hr hlocks
  delta wp_X8_ended at h
  refine j_lv (lv1 := [(0, .ref (ad 79)), (1, .int i1)]) [0, 1] rfl ?_
  refine j_iload_n X 1 rfl rfl dX8_ended_0 ?_
  refine j_iconst X (v := 0) (by decide) dX8_ended_1 ?_
  refine j_bipush X (v := 60) (by decide) dX8_ended_2 ?_
  refine j_callSI X (nn := 3) (As := [.int i1, .int 0, .int 60]) (st := []) aw_134 (x_X8_in l D y ad i1 0 60 _ _ h) aw_133 aw_135 aw_5 (by decide +kernel) ⟨Nat.le_of_ble_eq_true rfl, Nat.le_of_ble_eq_true rfl⟩ rfl (Nat.le_of_ble_eq_true rfl) ⟨Nat.le_of_ble_eq_true rfl, Nat.le_of_ble_eq_true rfl⟩ dX8_ended_4 ?_
  intro r1 M1 h
  refine j_if_eq X 18 (by decide) dX8_ended_7 (fun q_2 => ?_) (fun q_2 => ?_)
  · replace h := h.1 q_2
    refine j_aload_n X 0 rfl rfl dX8_ended_18 ?_
    refine j_ldc X (v := (-1000000001)) aw_132 dX8_ended_19 ?_
    refine j_callVI X (nn := 1) (As := [.int (-1000000001)]) (st := []) (ci := 8) cl_79.1 (wE_8 _ cl_79.2) rfl aw_144 aw_145 (x_X8_errs l D y ad (-1000000001) _ _ h) aw_143 aw_146 aw_5 (by decide +kernel) ⟨Nat.le_of_ble_eq_true rfl, Nat.le_of_ble_eq_true rfl⟩ rfl (Nat.le_of_ble_eq_true rfl) ⟨Nat.le_of_ble_eq_true rfl, Nat.le_of_ble_eq_true rfl⟩ dX8_ended_21 ?_
    intro r3 M3 h
    exact j_iret X hr hlocks dX8_ended_24 h
  · replace h := h.2 q_2
    refine j_aload_n X 0 rfl rfl dX8_ended_10 ?_
    refine j_iload_n X 1 rfl rfl dX8_ended_11 ?_
    refine j_callVI X (nn := 1) (As := [.int i1]) (st := []) (ci := 8) cl_79.1 (wE_8 _ cl_79.2) rfl aw_575 aw_576 (x_X8_overBehind l D y ad i1 _ _ h) aw_574 aw_577 aw_5 (by decide +kernel) ⟨Nat.le_of_ble_eq_true rfl, Nat.le_of_ble_eq_true rfl⟩ rfl (Nat.le_of_ble_eq_true rfl) ⟨Nat.le_of_ble_eq_true rfl, Nat.le_of_ble_eq_true rfl⟩ dX8_ended_12 ?_
    intro r4 M4 h
    refine j_goto X 24 (by decide) dX8_ended_15 ?_
    exact j_iret X hr hlocks dX8_ended_24 h
theorem dX8_mostOver_17 : decode cX8_mostOver 17 = .ok (.iload 7, 2) := dk_21 (by decide +kernel)
theorem dX8_mostOver_19 : decode cX8_mostOver 19 = .ok (.bipush 10, 2) := dk_16 (by decide +kernel)
theorem dX8_mostOver_21 : decode cX8_mostOver 21 = .ok (.if_icmp .ge 59, 3) := dk_162 (by decide +kernel)
theorem dX8_mostOver_80 : decode cX8_mostOver 80 = .ok (.aload_n 0, 1) := dk_42 (by decide +kernel)
theorem dX8_mostOver_81 : decode cX8_mostOver 81 = .ok (.getfield 7, 3) := dk_180 (by decide +kernel)
theorem dX8_mostOver_84 : decode cX8_mostOver 84 = .ok (.iload_n 1, 1) := dk_27 (by decide +kernel)
theorem dX8_mostOver_85 : decode cX8_mostOver 85 = .ok (.iload 4, 2) := dk_21 (by decide +kernel)
theorem dX8_mostOver_87 : decode cX8_mostOver 87 = .ok (.iastore, 1) := dk_79 (by decide +kernel)
theorem dX8_mostOver_88 : decode cX8_mostOver 88 = .ok (.iload_n 3, 1) := dk_29 (by decide +kernel)
theorem dX8_mostOver_89 : decode cX8_mostOver 89 = .ok (.ifCond .ne 8, 3) := dk_154 (by decide +kernel)
theorem dX8_mostOver_97 : decode cX8_mostOver 97 = .ok (.iload 6, 2) := dk_21 (by decide +kernel)
theorem dX8_mostOver_99 : decode cX8_mostOver 99 = .ok (.ireturn, 1) := dk_172 (by decide +kernel)
theorem dX8_mostOver_92 : decode cX8_mostOver 92 = .ok (.iload 5, 2) := dk_21 (by decide +kernel)
theorem dX8_mostOver_94 : decode cX8_mostOver 94 = .ok (.goto 5, 3) := dk_167 (by decide +kernel)
theorem dX8_mostOver_24 : decode cX8_mostOver 24 = .ok (.aload_n 0, 1) := dk_42 (by decide +kernel)
theorem dX8_mostOver_25 : decode cX8_mostOver 25 = .ok (.getfield 7, 3) := dk_180 (by decide +kernel)
theorem dX8_mostOver_28 : decode cX8_mostOver 28 = .ok (.iload_n 1, 1) := dk_27 (by decide +kernel)
theorem dX8_mostOver_29 : decode cX8_mostOver 29 = .ok (.iload 7, 2) := dk_21 (by decide +kernel)
theorem dX8_mostOver_31 : decode cX8_mostOver 31 = .ok (.iastore, 1) := dk_79 (by decide +kernel)
theorem dX8_mostOver_32 : decode cX8_mostOver 32 = .ok (.aload_n 0, 1) := dk_42 (by decide +kernel)
theorem dX8_mostOver_33 : decode cX8_mostOver 33 = .ok (.iload_n 2, 1) := dk_28 (by decide +kernel)
theorem dX8_mostOver_34 : decode cX8_mostOver 34 = .ok (.invokevirtual 195, 3) := dk_182 (by decide +kernel)
theorem dX8_mostOver_37 : decode cX8_mostOver 37 = .ok (.invokestatic 187, 3) := dk_184 (by decide +kernel)
theorem dX8_mostOver_40 : decode cX8_mostOver 40 = .ok (.istore 8, 2) := dk_54 (by decide +kernel)
theorem dX8_mostOver_42 : decode cX8_mostOver 42 = .ok (.iload 8, 2) := dk_21 (by decide +kernel)
theorem dX8_mostOver_44 : decode cX8_mostOver 44 = .ok (.iload 6, 2) := dk_21 (by decide +kernel)
theorem dX8_mostOver_46 : decode cX8_mostOver 46 = .ok (.if_icmp .le 8, 3) := dk_164 (by decide +kernel)
theorem dX8_mostOver_54 : decode cX8_mostOver 54 = .ok (.iload 5, 2) := dk_21 (by decide +kernel)
theorem dX8_mostOver_56 : decode cX8_mostOver 56 = .ok (.istore 5, 2) := dk_54 (by decide +kernel)
theorem dX8_mostOver_58 : decode cX8_mostOver 58 = .ok (.iload 8, 2) := dk_21 (by decide +kernel)
theorem dX8_mostOver_60 : decode cX8_mostOver 60 = .ok (.iload 6, 2) := dk_21 (by decide +kernel)
theorem dX8_mostOver_62 : decode cX8_mostOver 62 = .ok (.if_icmp .le 8, 3) := dk_164 (by decide +kernel)
theorem dX8_mostOver_70 : decode cX8_mostOver 70 = .ok (.iload 6, 2) := dk_21 (by decide +kernel)
theorem dX8_mostOver_72 : decode cX8_mostOver 72 = .ok (.istore 6, 2) := dk_54 (by decide +kernel)
theorem dX8_mostOver_74 : decode cX8_mostOver 74 = .ok (.iinc 7 1, 3) := dk_132 (by decide +kernel)
theorem dX8_mostOver_77 : decode cX8_mostOver 77 = .ok (.goto (-60), 3) := dk_167 (by decide +kernel)
theorem dX8_mostOver_65 : decode cX8_mostOver 65 = .ok (.iload 8, 2) := dk_21 (by decide +kernel)
theorem dX8_mostOver_67 : decode cX8_mostOver 67 = .ok (.goto 5, 3) := dk_167 (by decide +kernel)
theorem dX8_mostOver_49 : decode cX8_mostOver 49 = .ok (.iload 7, 2) := dk_21 (by decide +kernel)
theorem dX8_mostOver_51 : decode cX8_mostOver 51 = .ok (.goto 5, 3) := dk_167 (by decide +kernel)
theorem dX8_mostOver_0 : decode cX8_mostOver 0 = .ok (.aload_n 0, 1) := dk_42 (by decide +kernel)
theorem dX8_mostOver_1 : decode cX8_mostOver 1 = .ok (.getfield 7, 3) := dk_180 (by decide +kernel)
theorem dX8_mostOver_4 : decode cX8_mostOver 4 = .ok (.iload_n 1, 1) := dk_27 (by decide +kernel)
theorem dX8_mostOver_5 : decode cX8_mostOver 5 = .ok (.iaload, 1) := dk_46 (by decide +kernel)
theorem dX8_mostOver_6 : decode cX8_mostOver 6 = .ok (.istore 4, 2) := dk_54 (by decide +kernel)
theorem dX8_mostOver_8 : decode cX8_mostOver 8 = .ok (.iconst 0, 1) := dk_3 (by decide +kernel)
theorem dX8_mostOver_9 : decode cX8_mostOver 9 = .ok (.istore 5, 2) := dk_54 (by decide +kernel)
theorem dX8_mostOver_11 : decode cX8_mostOver 11 = .ok (.iconst (-1), 1) := dk_2 (by decide +kernel)
theorem dX8_mostOver_12 : decode cX8_mostOver 12 = .ok (.istore 6, 2) := dk_54 (by decide +kernel)
theorem dX8_mostOver_14 : decode cX8_mostOver 14 = .ok (.iconst 0, 1) := dk_3 (by decide +kernel)
theorem dX8_mostOver_15 : decode cX8_mostOver 15 = .ok (.istore 7, 2) := dk_54 (by decide +kernel)
set_option maxRecDepth 100000 in
set_option maxHeartbeats 8000000 in
theorem x_X8_mostOver (l : Launch) (D : va_G) (y : wY) (ad : Nat → Nat) (i1 : Int32) (i2 : Int32) (i3 : Int32) (M : Mem) (K : Int32 → Mem → Prop) (h : wp_X8_mostOver i1 i2 i3 M K) : MI l D y ad yX8_mostOver (Cond.code yX8_mostOver cX8_mostOver 9 (some .int)) 8 M [.ref (ad 79), .int i1, .int i2, .int i3] K := by
  refine MI_of (by decide) (Nat.le_of_ble_eq_true rfl) ?_
  intro p e s m args below meth c X hr hlocks
  have hL17 : ∀ (i1 : Int32) (i2 : Int32) (i3 : Int32) (i4 : Int32) (n : Nat) (i5 : Int32) (i6 : Int32) (i7 : Int32) (Mb : Mem), wp_X8_mostOver_L17 K i1 i2 i3 i4 n i5 i6 i7 Mb → J p l e (rmN 8) s m args below meth c 0 0 (QI K D y ad M s args below) D y ad (va_A (PL y ad M) s.heap.size) 9 Mb 17 [(0, .ref (ad 79)), (1, .int i1), (2, .int i2), (3, .int i3), (4, .int i4), (5, .int i5), (6, .int i6), (7, .int i7)] [] := by
    intro i1 i2 i3 i4 n
    induction n with
    | zero => intro i5 i6 i7 Mb h; exact False.elim h
    | succ n hB17 =>
      intro i5 i6 i7 Mb h
      replace h : wp_X8_mostOver_l17 K i1 i2 i3 i4 (wp_X8_mostOver_L17 K i1 i2 i3 i4 n) i5 i6 i7 Mb := h
      delta wp_X8_mostOver_l17 at h
      refine j_iload X 7 rfl dX8_mostOver_17 ?_
      refine j_bipush X (v := 10) (by decide) dX8_mostOver_19 ?_
      refine j_icmp_ge X 80 (by decide) dX8_mostOver_21 (fun q_1701 => ?_) (fun q_1701 => ?_)
      · replace h := h.1 q_1701
        refine j_aload_n X 0 rfl rfl dX8_mostOver_80 ?_
        refine j_get X cl_79.1 (wE_8 _ cl_79.2) rfl awF8 0 (by decide) aw_92 rfl (v := .ref (ad 80)) rfl dX8_mostOver_81 ?_
        refine j_iload_n X 1 rfl rfl dX8_mostOver_84 ?_
        refine j_iload X 4 rfl dX8_mostOver_85 ?_
        obtain ⟨hi_1702, h⟩ := h
        refine j_iast X cl_80.1 cl_80.2 hi_1702 dX8_mostOver_87 ?_
        refine j_iload_n X 3 rfl rfl dX8_mostOver_88 ?_
        refine j_if_ne X 97 (by decide) dX8_mostOver_89 (fun q_1703 => ?_) (fun q_1703 => ?_)
        · replace h := h.1 q_1703
          refine j_iload X 6 rfl dX8_mostOver_97 ?_
          exact j_iret X hr hlocks dX8_mostOver_99 h
        · replace h := h.2 q_1703
          refine j_iload X 5 rfl dX8_mostOver_92 ?_
          refine j_goto X 99 (by decide) dX8_mostOver_94 ?_
          exact j_iret X hr hlocks dX8_mostOver_99 h
      · replace h := h.2 q_1701
        refine j_aload_n X 0 rfl rfl dX8_mostOver_24 ?_
        refine j_get X cl_79.1 (wE_8 _ cl_79.2) rfl awF8 0 (by decide) aw_92 rfl (v := .ref (ad 80)) rfl dX8_mostOver_25 ?_
        refine j_iload_n X 1 rfl rfl dX8_mostOver_28 ?_
        refine j_iload X 7 rfl dX8_mostOver_29 ?_
        obtain ⟨hi_1704, h⟩ := h
        refine j_iast X cl_80.1 cl_80.2 hi_1704 dX8_mostOver_31 ?_
        refine j_aload_n X 0 rfl rfl dX8_mostOver_32 ?_
        refine j_iload_n X 2 rfl rfl dX8_mostOver_33 ?_
        refine j_callVI X (nn := 1) (As := [.int i2]) (st := []) (ci := 8) cl_79.1 (wE_8 _ cl_79.2) rfl aw_575 aw_576 (x_X8_overBehind l D y ad i2 _ _ h) aw_574 aw_577 aw_5 (by decide +kernel) ⟨Nat.le_of_ble_eq_true rfl, Nat.le_of_ble_eq_true rfl⟩ rfl (Nat.le_of_ble_eq_true rfl) ⟨Nat.le_of_ble_eq_true rfl, Nat.le_of_ble_eq_true rfl⟩ dX8_mostOver_34 ?_
        intro r1705 M1705 h
        refine j_callSI X (nn := 1) (As := [.int r1705]) (st := []) aw_510 (x_X8_bits l D y ad r1705 _ _ h) aw_509 aw_511 aw_5 (by decide +kernel) ⟨Nat.le_of_ble_eq_true rfl, Nat.le_of_ble_eq_true rfl⟩ rfl (Nat.le_of_ble_eq_true rfl) ⟨Nat.le_of_ble_eq_true rfl, Nat.le_of_ble_eq_true rfl⟩ dX8_mostOver_37 ?_
        intro r1706 M1706 h
        refine j_istore X [(8, .int r1706), (0, .ref (ad 79)), (1, .int i1), (2, .int i2), (3, .int i3), (4, .int i4), (5, .int i5), (6, .int i6), (7, .int i7)] (by decide) rfl dX8_mostOver_40 ?_
        refine j_iload X 0 rfl dX8_mostOver_42 ?_
        refine j_iload X 7 rfl dX8_mostOver_44 ?_
        refine j_icmp_le X 54 (by decide) dX8_mostOver_46 (fun q_1707 => ?_) (fun q_1707 => ?_)
        · replace h := h.1 q_1707
          refine j_iload X 6 rfl dX8_mostOver_54 ?_
          refine j_istore X [(5, .int i5), (8, .int r1706), (0, .ref (ad 79)), (1, .int i1), (2, .int i2), (3, .int i3), (4, .int i4), (6, .int i6), (7, .int i7)] (by decide) rfl dX8_mostOver_56 ?_
          refine j_iload X 1 rfl dX8_mostOver_58 ?_
          refine j_iload X 7 rfl dX8_mostOver_60 ?_
          refine j_icmp_le X 70 (by decide) dX8_mostOver_62 (fun q_1708 => ?_) (fun q_1708 => ?_)
          · replace h := h.1 q_1708
            refine j_iload X 7 rfl dX8_mostOver_70 ?_
            refine j_istore X [(6, .int i6), (5, .int i5), (8, .int r1706), (0, .ref (ad 79)), (1, .int i1), (2, .int i2), (3, .int i3), (4, .int i4), (7, .int i7)] (by decide) rfl dX8_mostOver_72 ?_
            refine j_iinc X (v := (i7 + 1)) 8 [(7, .int (i7 + 1)), (6, .int i6), (5, .int i5), (8, .int r1706), (0, .ref (ad 79)), (1, .int i1), (2, .int i2), (3, .int i3), (4, .int i4)] rfl rfl (by decide) rfl dX8_mostOver_74 ?_
            refine j_goto X 17 (by decide) dX8_mostOver_77 ?_
            refine j_lv (lv1 := [(0, .ref (ad 79)), (1, .int i1), (2, .int i2), (3, .int i3), (4, .int i4), (5, .int i5), (6, .int i6), (7, .int (i7 + 1))]) [4, 5, 6, 7, 8, 2, 1, 0] rfl ?_
            exact hB17 _ _ _ _ h
          · replace h := h.2 q_1708
            refine j_iload X 1 rfl dX8_mostOver_65 ?_
            refine j_goto X 72 (by decide) dX8_mostOver_67 ?_
            refine j_istore X [(6, .int r1706), (5, .int i5), (8, .int r1706), (0, .ref (ad 79)), (1, .int i1), (2, .int i2), (3, .int i3), (4, .int i4), (7, .int i7)] (by decide) rfl dX8_mostOver_72 ?_
            refine j_iinc X (v := (i7 + 1)) 8 [(7, .int (i7 + 1)), (6, .int r1706), (5, .int i5), (8, .int r1706), (0, .ref (ad 79)), (1, .int i1), (2, .int i2), (3, .int i3), (4, .int i4)] rfl rfl (by decide) rfl dX8_mostOver_74 ?_
            refine j_goto X 17 (by decide) dX8_mostOver_77 ?_
            refine j_lv (lv1 := [(0, .ref (ad 79)), (1, .int i1), (2, .int i2), (3, .int i3), (4, .int i4), (5, .int i5), (6, .int r1706), (7, .int (i7 + 1))]) [4, 5, 6, 7, 8, 2, 1, 0] rfl ?_
            exact hB17 _ _ _ _ h
        · replace h := h.2 q_1707
          refine j_iload X 8 rfl dX8_mostOver_49 ?_
          refine j_goto X 56 (by decide) dX8_mostOver_51 ?_
          refine j_istore X [(5, .int i7), (8, .int r1706), (0, .ref (ad 79)), (1, .int i1), (2, .int i2), (3, .int i3), (4, .int i4), (6, .int i6), (7, .int i7)] (by decide) rfl dX8_mostOver_56 ?_
          refine j_iload X 1 rfl dX8_mostOver_58 ?_
          refine j_iload X 7 rfl dX8_mostOver_60 ?_
          refine j_icmp_le X 70 (by decide) dX8_mostOver_62 (fun q_1709 => ?_) (fun q_1709 => ?_)
          · replace h := h.1 q_1709
            refine j_iload X 7 rfl dX8_mostOver_70 ?_
            refine j_istore X [(6, .int i6), (5, .int i7), (8, .int r1706), (0, .ref (ad 79)), (1, .int i1), (2, .int i2), (3, .int i3), (4, .int i4), (7, .int i7)] (by decide) rfl dX8_mostOver_72 ?_
            refine j_iinc X (v := (i7 + 1)) 8 [(7, .int (i7 + 1)), (6, .int i6), (5, .int i7), (8, .int r1706), (0, .ref (ad 79)), (1, .int i1), (2, .int i2), (3, .int i3), (4, .int i4)] rfl rfl (by decide) rfl dX8_mostOver_74 ?_
            refine j_goto X 17 (by decide) dX8_mostOver_77 ?_
            refine j_lv (lv1 := [(0, .ref (ad 79)), (1, .int i1), (2, .int i2), (3, .int i3), (4, .int i4), (5, .int i7), (6, .int i6), (7, .int (i7 + 1))]) [4, 5, 6, 7, 8, 2, 1, 0] rfl ?_
            exact hB17 _ _ _ _ h
          · replace h := h.2 q_1709
            refine j_iload X 1 rfl dX8_mostOver_65 ?_
            refine j_goto X 72 (by decide) dX8_mostOver_67 ?_
            refine j_istore X [(6, .int r1706), (5, .int i7), (8, .int r1706), (0, .ref (ad 79)), (1, .int i1), (2, .int i2), (3, .int i3), (4, .int i4), (7, .int i7)] (by decide) rfl dX8_mostOver_72 ?_
            refine j_iinc X (v := (i7 + 1)) 8 [(7, .int (i7 + 1)), (6, .int r1706), (5, .int i7), (8, .int r1706), (0, .ref (ad 79)), (1, .int i1), (2, .int i2), (3, .int i3), (4, .int i4)] rfl rfl (by decide) rfl dX8_mostOver_74 ?_
            refine j_goto X 17 (by decide) dX8_mostOver_77 ?_
            refine j_lv (lv1 := [(0, .ref (ad 79)), (1, .int i1), (2, .int i2), (3, .int i3), (4, .int i4), (5, .int i7), (6, .int r1706), (7, .int (i7 + 1))]) [4, 5, 6, 7, 8, 2, 1, 0] rfl ?_
            exact hB17 _ _ _ _ h
  delta wp_X8_mostOver at h
  refine j_lv (lv1 := [(0, .ref (ad 79)), (1, .int i1), (2, .int i2), (3, .int i3)]) [0, 1, 2, 3] rfl ?_
  refine j_aload_n X 0 rfl rfl dX8_mostOver_0 ?_
  refine j_get X cl_79.1 (wE_8 _ cl_79.2) rfl awF8 0 (by decide) aw_92 rfl (v := .ref (ad 80)) rfl dX8_mostOver_1 ?_
  refine j_iload_n X 1 rfl rfl dX8_mostOver_4 ?_
  obtain ⟨hi_1, h⟩ := h
  refine j_iald X cl_80.1 cl_80.2 hi_1 dX8_mostOver_5 ?_
  refine j_istore X [(4, .int (M 80 i1.toNatClampNeg)), (0, .ref (ad 79)), (1, .int i1), (2, .int i2), (3, .int i3)] (by decide) rfl dX8_mostOver_6 ?_
  refine j_iconst X (v := 0) (by decide) dX8_mostOver_8 ?_
  refine j_istore X [(5, .int 0), (4, .int (M 80 i1.toNatClampNeg)), (0, .ref (ad 79)), (1, .int i1), (2, .int i2), (3, .int i3)] (by decide) rfl dX8_mostOver_9 ?_
  refine j_iconst X (v := (-1)) (by decide) dX8_mostOver_11 ?_
  refine j_istore X [(6, .int (-1)), (5, .int 0), (4, .int (M 80 i1.toNatClampNeg)), (0, .ref (ad 79)), (1, .int i1), (2, .int i2), (3, .int i3)] (by decide) rfl dX8_mostOver_12 ?_
  refine j_iconst X (v := 0) (by decide) dX8_mostOver_14 ?_
  refine j_istore X [(7, .int 0), (6, .int (-1)), (5, .int 0), (4, .int (M 80 i1.toNatClampNeg)), (0, .ref (ad 79)), (1, .int i1), (2, .int i2), (3, .int i3)] (by decide) rfl dX8_mostOver_15 ?_
  refine j_lv (lv1 := [(0, .ref (ad 79)), (1, .int i1), (2, .int i2), (3, .int i3), (4, .int (M 80 i1.toNatClampNeg)), (5, .int 0), (6, .int (-1)), (7, .int 0)]) [4, 5, 6, 7, 3, 2, 1, 0] rfl ?_
  obtain ⟨n17, h⟩ := h
  exact hL17 _ _ _ _   n17 _ _ _ _ h
theorem dX8_start_0 : decode cX8_start 0 = .ok (.iload_n 1, 1) := dk_27 (by decide +kernel)
theorem dX8_start_1 : decode cX8_start 1 = .ok (.iconst 0, 1) := dk_3 (by decide +kernel)
theorem dX8_start_2 : decode cX8_start 2 = .ok (.bipush 60, 2) := dk_16 (by decide +kernel)
theorem dX8_start_4 : decode cX8_start 4 = .ok (.invokestatic 47, 3) := dk_184 (by decide +kernel)
theorem dX8_start_7 : decode cX8_start 7 = .ok (.ifCond .eq 23, 3) := dk_153 (by decide +kernel)
theorem dX8_start_30 : decode cX8_start 30 = .ok (.aload_n 0, 1) := dk_42 (by decide +kernel)
theorem dX8_start_31 : decode cX8_start 31 = .ok (.ldc 60, 2) := dk_18 (by decide +kernel)
theorem dX8_start_33 : decode cX8_start 33 = .ok (.invokevirtual 61, 3) := dk_182 (by decide +kernel)
theorem dX8_start_36 : decode cX8_start 36 = .ok (.ireturn, 1) := dk_172 (by decide +kernel)
theorem dX8_start_10 : decode cX8_start 10 = .ok (.iload_n 2, 1) := dk_28 (by decide +kernel)
theorem dX8_start_11 : decode cX8_start 11 = .ok (.iconst 0, 1) := dk_3 (by decide +kernel)
theorem dX8_start_12 : decode cX8_start 12 = .ok (.iconst 1, 1) := dk_4 (by decide +kernel)
theorem dX8_start_13 : decode cX8_start 13 = .ok (.invokestatic 47, 3) := dk_184 (by decide +kernel)
theorem dX8_start_16 : decode cX8_start 16 = .ok (.ifCond .eq 14, 3) := dk_153 (by decide +kernel)
theorem dX8_start_19 : decode cX8_start 19 = .ok (.aload_n 0, 1) := dk_42 (by decide +kernel)
theorem dX8_start_20 : decode cX8_start 20 = .ok (.bipush 7, 2) := dk_16 (by decide +kernel)
theorem dX8_start_22 : decode cX8_start 22 = .ok (.iload_n 1, 1) := dk_27 (by decide +kernel)
theorem dX8_start_23 : decode cX8_start 23 = .ok (.iload_n 2, 1) := dk_28 (by decide +kernel)
theorem dX8_start_24 : decode cX8_start 24 = .ok (.invokevirtual 198, 3) := dk_182 (by decide +kernel)
theorem dX8_start_27 : decode cX8_start 27 = .ok (.goto 9, 3) := dk_167 (by decide +kernel)
set_option maxRecDepth 100000 in
set_option maxHeartbeats 8000000 in
theorem x_X8_start (l : Launch) (D : va_G) (y : wY) (ad : Nat → Nat) (i1 : Int32) (i2 : Int32) (M : Mem) (K : Int32 → Mem → Prop) (h : wp_X8_start i1 i2 M K) : MI l D y ad yX8_start (Cond.code yX8_start cX8_start 3 (some .int)) 9 M [.ref (ad 79), .int i1, .int i2] K := by
  refine MI_of (by decide) (Nat.le_of_ble_eq_true rfl) ?_
  intro p e s m args below meth c X hr hlocks
  delta wp_X8_start at h
  refine j_lv (lv1 := [(0, .ref (ad 79)), (1, .int i1), (2, .int i2)]) [0, 1, 2] rfl ?_
  refine j_iload_n X 1 rfl rfl dX8_start_0 ?_
  refine j_iconst X (v := 0) (by decide) dX8_start_1 ?_
  refine j_bipush X (v := 60) (by decide) dX8_start_2 ?_
  refine j_callSI X (nn := 3) (As := [.int i1, .int 0, .int 60]) (st := []) aw_134 (x_X8_in l D y ad i1 0 60 _ _ h) aw_133 aw_135 aw_5 (by decide +kernel) ⟨Nat.le_of_ble_eq_true rfl, Nat.le_of_ble_eq_true rfl⟩ rfl (Nat.le_of_ble_eq_true rfl) ⟨Nat.le_of_ble_eq_true rfl, Nat.le_of_ble_eq_true rfl⟩ dX8_start_4 ?_
  intro r1 M1 h
  refine j_if_eq X 30 (by decide) dX8_start_7 (fun q_2 => ?_) (fun q_2 => ?_)
  · replace h := h.1 q_2
    refine j_aload_n X 0 rfl rfl dX8_start_30 ?_
    refine j_ldc X (v := (-1000000001)) aw_132 dX8_start_31 ?_
    refine j_callVI X (nn := 1) (As := [.int (-1000000001)]) (st := []) (ci := 8) cl_79.1 (wE_8 _ cl_79.2) rfl aw_144 aw_145 (x_X8_errs l D y ad (-1000000001) _ _ h) aw_143 aw_146 aw_5 (by decide +kernel) ⟨Nat.le_of_ble_eq_true rfl, Nat.le_of_ble_eq_true rfl⟩ rfl (Nat.le_of_ble_eq_true rfl) ⟨Nat.le_of_ble_eq_true rfl, Nat.le_of_ble_eq_true rfl⟩ dX8_start_33 ?_
    intro r3 M3 h
    exact j_iret X hr hlocks dX8_start_36 h
  · replace h := h.2 q_2
    refine j_iload_n X 2 rfl rfl dX8_start_10 ?_
    refine j_iconst X (v := 0) (by decide) dX8_start_11 ?_
    refine j_iconst X (v := 1) (by decide) dX8_start_12 ?_
    refine j_callSI X (nn := 3) (As := [.int i2, .int 0, .int 1]) (st := []) aw_134 (x_X8_in l D y ad i2 0 1 _ _ h) aw_133 aw_135 aw_5 (by decide +kernel) ⟨Nat.le_of_ble_eq_true rfl, Nat.le_of_ble_eq_true rfl⟩ rfl (Nat.le_of_ble_eq_true rfl) ⟨Nat.le_of_ble_eq_true rfl, Nat.le_of_ble_eq_true rfl⟩ dX8_start_13 ?_
    intro r4 M4 h
    refine j_if_eq X 30 (by decide) dX8_start_16 (fun q_5 => ?_) (fun q_5 => ?_)
    · replace h := h.1 q_5
      refine j_aload_n X 0 rfl rfl dX8_start_30 ?_
      refine j_ldc X (v := (-1000000001)) aw_132 dX8_start_31 ?_
      refine j_callVI X (nn := 1) (As := [.int (-1000000001)]) (st := []) (ci := 8) cl_79.1 (wE_8 _ cl_79.2) rfl aw_144 aw_145 (x_X8_errs l D y ad (-1000000001) _ _ h) aw_143 aw_146 aw_5 (by decide +kernel) ⟨Nat.le_of_ble_eq_true rfl, Nat.le_of_ble_eq_true rfl⟩ rfl (Nat.le_of_ble_eq_true rfl) ⟨Nat.le_of_ble_eq_true rfl, Nat.le_of_ble_eq_true rfl⟩ dX8_start_33 ?_
      intro r6 M6 h
      exact j_iret X hr hlocks dX8_start_36 h
    · replace h := h.2 q_5
      refine j_aload_n X 0 rfl rfl dX8_start_19 ?_
      refine j_bipush X (v := 7) (by decide) dX8_start_20 ?_
      refine j_iload_n X 1 rfl rfl dX8_start_22 ?_
      refine j_iload_n X 2 rfl rfl dX8_start_23 ?_
      refine j_callVI X (nn := 3) (As := [.int 7, .int i1, .int i2]) (st := []) (ci := 8) cl_79.1 (wE_8 _ cl_79.2) rfl aw_587 aw_588 (x_X8_mostOver l D y ad 7 i1 i2 _ _ h) aw_586 aw_589 aw_5 (by decide +kernel) ⟨Nat.le_of_ble_eq_true rfl, Nat.le_of_ble_eq_true rfl⟩ rfl (Nat.le_of_ble_eq_true rfl) ⟨Nat.le_of_ble_eq_true rfl, Nat.le_of_ble_eq_true rfl⟩ dX8_start_24 ?_
      intro r7 M7 h
      refine j_goto X 36 (by decide) dX8_start_27 ?_
      exact j_iret X hr hlocks dX8_start_36 h
theorem dX8_pace_0 : decode cX8_pace 0 = .ok (.iload_n 1, 1) := dk_27 (by decide +kernel)
theorem dX8_pace_1 : decode cX8_pace 1 = .ok (.iconst 0, 1) := dk_3 (by decide +kernel)
theorem dX8_pace_2 : decode cX8_pace 2 = .ok (.bipush 60, 2) := dk_16 (by decide +kernel)
theorem dX8_pace_4 : decode cX8_pace 4 = .ok (.invokestatic 47, 3) := dk_184 (by decide +kernel)
theorem dX8_pace_7 : decode cX8_pace 7 = .ok (.ifCond .eq 23, 3) := dk_153 (by decide +kernel)
theorem dX8_pace_30 : decode cX8_pace 30 = .ok (.aload_n 0, 1) := dk_42 (by decide +kernel)
theorem dX8_pace_31 : decode cX8_pace 31 = .ok (.ldc 60, 2) := dk_18 (by decide +kernel)
theorem dX8_pace_33 : decode cX8_pace 33 = .ok (.invokevirtual 61, 3) := dk_182 (by decide +kernel)
theorem dX8_pace_36 : decode cX8_pace 36 = .ok (.ireturn, 1) := dk_172 (by decide +kernel)
theorem dX8_pace_10 : decode cX8_pace 10 = .ok (.iload_n 2, 1) := dk_28 (by decide +kernel)
theorem dX8_pace_11 : decode cX8_pace 11 = .ok (.iconst 0, 1) := dk_3 (by decide +kernel)
theorem dX8_pace_12 : decode cX8_pace 12 = .ok (.iconst 1, 1) := dk_4 (by decide +kernel)
theorem dX8_pace_13 : decode cX8_pace 13 = .ok (.invokestatic 47, 3) := dk_184 (by decide +kernel)
theorem dX8_pace_16 : decode cX8_pace 16 = .ok (.ifCond .eq 14, 3) := dk_153 (by decide +kernel)
theorem dX8_pace_19 : decode cX8_pace 19 = .ok (.aload_n 0, 1) := dk_42 (by decide +kernel)
theorem dX8_pace_20 : decode cX8_pace 20 = .ok (.bipush 8, 2) := dk_16 (by decide +kernel)
theorem dX8_pace_22 : decode cX8_pace 22 = .ok (.iload_n 1, 1) := dk_27 (by decide +kernel)
theorem dX8_pace_23 : decode cX8_pace 23 = .ok (.iload_n 2, 1) := dk_28 (by decide +kernel)
theorem dX8_pace_24 : decode cX8_pace 24 = .ok (.invokevirtual 198, 3) := dk_182 (by decide +kernel)
theorem dX8_pace_27 : decode cX8_pace 27 = .ok (.goto 9, 3) := dk_167 (by decide +kernel)
set_option maxRecDepth 100000 in
set_option maxHeartbeats 8000000 in
theorem x_X8_pace (l : Launch) (D : va_G) (y : wY) (ad : Nat → Nat) (i1 : Int32) (i2 : Int32) (M : Mem) (K : Int32 → Mem → Prop) (h : wp_X8_pace i1 i2 M K) : MI l D y ad yX8_pace (Cond.code yX8_pace cX8_pace 3 (some .int)) 9 M [.ref (ad 79), .int i1, .int i2] K := by
  refine MI_of (by decide) (Nat.le_of_ble_eq_true rfl) ?_
  intro p e s m args below meth c X hr hlocks
  delta wp_X8_pace at h
  refine j_lv (lv1 := [(0, .ref (ad 79)), (1, .int i1), (2, .int i2)]) [0, 1, 2] rfl ?_
  refine j_iload_n X 1 rfl rfl dX8_pace_0 ?_
  refine j_iconst X (v := 0) (by decide) dX8_pace_1 ?_
  refine j_bipush X (v := 60) (by decide) dX8_pace_2 ?_
  refine j_callSI X (nn := 3) (As := [.int i1, .int 0, .int 60]) (st := []) aw_134 (x_X8_in l D y ad i1 0 60 _ _ h) aw_133 aw_135 aw_5 (by decide +kernel) ⟨Nat.le_of_ble_eq_true rfl, Nat.le_of_ble_eq_true rfl⟩ rfl (Nat.le_of_ble_eq_true rfl) ⟨Nat.le_of_ble_eq_true rfl, Nat.le_of_ble_eq_true rfl⟩ dX8_pace_4 ?_
  intro r1 M1 h
  refine j_if_eq X 30 (by decide) dX8_pace_7 (fun q_2 => ?_) (fun q_2 => ?_)
  · replace h := h.1 q_2
    refine j_aload_n X 0 rfl rfl dX8_pace_30 ?_
    refine j_ldc X (v := (-1000000001)) aw_132 dX8_pace_31 ?_
    refine j_callVI X (nn := 1) (As := [.int (-1000000001)]) (st := []) (ci := 8) cl_79.1 (wE_8 _ cl_79.2) rfl aw_144 aw_145 (x_X8_errs l D y ad (-1000000001) _ _ h) aw_143 aw_146 aw_5 (by decide +kernel) ⟨Nat.le_of_ble_eq_true rfl, Nat.le_of_ble_eq_true rfl⟩ rfl (Nat.le_of_ble_eq_true rfl) ⟨Nat.le_of_ble_eq_true rfl, Nat.le_of_ble_eq_true rfl⟩ dX8_pace_33 ?_
    intro r3 M3 h
    exact j_iret X hr hlocks dX8_pace_36 h
  · replace h := h.2 q_2
    refine j_iload_n X 2 rfl rfl dX8_pace_10 ?_
    refine j_iconst X (v := 0) (by decide) dX8_pace_11 ?_
    refine j_iconst X (v := 1) (by decide) dX8_pace_12 ?_
    refine j_callSI X (nn := 3) (As := [.int i2, .int 0, .int 1]) (st := []) aw_134 (x_X8_in l D y ad i2 0 1 _ _ h) aw_133 aw_135 aw_5 (by decide +kernel) ⟨Nat.le_of_ble_eq_true rfl, Nat.le_of_ble_eq_true rfl⟩ rfl (Nat.le_of_ble_eq_true rfl) ⟨Nat.le_of_ble_eq_true rfl, Nat.le_of_ble_eq_true rfl⟩ dX8_pace_13 ?_
    intro r4 M4 h
    refine j_if_eq X 30 (by decide) dX8_pace_16 (fun q_5 => ?_) (fun q_5 => ?_)
    · replace h := h.1 q_5
      refine j_aload_n X 0 rfl rfl dX8_pace_30 ?_
      refine j_ldc X (v := (-1000000001)) aw_132 dX8_pace_31 ?_
      refine j_callVI X (nn := 1) (As := [.int (-1000000001)]) (st := []) (ci := 8) cl_79.1 (wE_8 _ cl_79.2) rfl aw_144 aw_145 (x_X8_errs l D y ad (-1000000001) _ _ h) aw_143 aw_146 aw_5 (by decide +kernel) ⟨Nat.le_of_ble_eq_true rfl, Nat.le_of_ble_eq_true rfl⟩ rfl (Nat.le_of_ble_eq_true rfl) ⟨Nat.le_of_ble_eq_true rfl, Nat.le_of_ble_eq_true rfl⟩ dX8_pace_33 ?_
      intro r6 M6 h
      exact j_iret X hr hlocks dX8_pace_36 h
    · replace h := h.2 q_5
      refine j_aload_n X 0 rfl rfl dX8_pace_19 ?_
      refine j_bipush X (v := 8) (by decide) dX8_pace_20 ?_
      refine j_iload_n X 1 rfl rfl dX8_pace_22 ?_
      refine j_iload_n X 2 rfl rfl dX8_pace_23 ?_
      refine j_callVI X (nn := 3) (As := [.int 8, .int i1, .int i2]) (st := []) (ci := 8) cl_79.1 (wE_8 _ cl_79.2) rfl aw_587 aw_588 (x_X8_mostOver l D y ad 8 i1 i2 _ _ h) aw_586 aw_589 aw_5 (by decide +kernel) ⟨Nat.le_of_ble_eq_true rfl, Nat.le_of_ble_eq_true rfl⟩ rfl (Nat.le_of_ble_eq_true rfl) ⟨Nat.le_of_ble_eq_true rfl, Nat.le_of_ble_eq_true rfl⟩ dX8_pace_24 ?_
      intro r7 M7 h
      refine j_goto X 36 (by decide) dX8_pace_27 ?_
      exact j_iret X hr hlocks dX8_pace_36 h
theorem dX8_isOverBy_15 : decode cX8_isOverBy 15 = .ok (.iload 4, 2) := dk_21 (by decide +kernel)
theorem dX8_isOverBy_17 : decode cX8_isOverBy 17 = .ok (.aload_n 0, 1) := dk_42 (by decide +kernel)
theorem dX8_isOverBy_18 : decode cX8_isOverBy 18 = .ok (.getfield 7, 3) := dk_180 (by decide +kernel)
theorem dX8_isOverBy_21 : decode cX8_isOverBy 21 = .ok (.iconst 2, 1) := dk_5 (by decide +kernel)
theorem dX8_isOverBy_22 : decode cX8_isOverBy 22 = .ok (.iaload, 1) := dk_46 (by decide +kernel)
theorem dX8_isOverBy_23 : decode cX8_isOverBy 23 = .ok (.if_icmp .ge 38, 3) := dk_162 (by decide +kernel)
theorem dX8_isOverBy_61 : decode cX8_isOverBy 61 = .ok (.aload_n 0, 1) := dk_42 (by decide +kernel)
theorem dX8_isOverBy_62 : decode cX8_isOverBy 62 = .ok (.iload_n 2, 1) := dk_28 (by decide +kernel)
theorem dX8_isOverBy_63 : decode cX8_isOverBy 63 = .ok (.invokevirtual 179, 3) := dk_182 (by decide +kernel)
theorem dX8_isOverBy_66 : decode cX8_isOverBy 66 = .ok (.aload_n 0, 1) := dk_42 (by decide +kernel)
theorem dX8_isOverBy_67 : decode cX8_isOverBy 67 = .ok (.iload_n 1, 1) := dk_27 (by decide +kernel)
theorem dX8_isOverBy_68 : decode cX8_isOverBy 68 = .ok (.invokevirtual 159, 3) := dk_182 (by decide +kernel)
theorem dX8_isOverBy_71 : decode cX8_isOverBy 71 = .ok (.istore 4, 2) := dk_54 (by decide +kernel)
theorem dX8_isOverBy_73 : decode cX8_isOverBy 73 = .ok (.aload_n 0, 1) := dk_42 (by decide +kernel)
theorem dX8_isOverBy_74 : decode cX8_isOverBy 74 = .ok (.aload_n 0, 1) := dk_42 (by decide +kernel)
theorem dX8_isOverBy_75 : decode cX8_isOverBy 75 = .ok (.getfield 16, 3) := dk_180 (by decide +kernel)
theorem dX8_isOverBy_78 : decode cX8_isOverBy 78 = .ok (.aload_n 0, 1) := dk_42 (by decide +kernel)
theorem dX8_isOverBy_79 : decode cX8_isOverBy 79 = .ok (.getfield 7, 3) := dk_180 (by decide +kernel)
theorem dX8_isOverBy_82 : decode cX8_isOverBy 82 = .ok (.invokevirtual 175, 3) := dk_182 (by decide +kernel)
theorem dX8_isOverBy_85 : decode cX8_isOverBy 85 = .ok (.iload 4, 2) := dk_21 (by decide +kernel)
theorem dX8_isOverBy_87 : decode cX8_isOverBy 87 = .ok (.ireturn, 1) := dk_172 (by decide +kernel)
theorem dX8_isOverBy_26 : decode cX8_isOverBy 26 = .ok (.aload_n 0, 1) := dk_42 (by decide +kernel)
theorem dX8_isOverBy_27 : decode cX8_isOverBy 27 = .ok (.iload 4, 2) := dk_21 (by decide +kernel)
theorem dX8_isOverBy_29 : decode cX8_isOverBy 29 = .ok (.iconst 3, 1) := dk_6 (by decide +kernel)
theorem dX8_isOverBy_30 : decode cX8_isOverBy 30 = .ok (.iload_n 3, 1) := dk_29 (by decide +kernel)
theorem dX8_isOverBy_31 : decode cX8_isOverBy 31 = .ok (.iload 4, 2) := dk_21 (by decide +kernel)
theorem dX8_isOverBy_33 : decode cX8_isOverBy 33 = .ok (.ishr, 1) := dk_122 (by decide +kernel)
theorem dX8_isOverBy_34 : decode cX8_isOverBy 34 = .ok (.iconst 1, 1) := dk_4 (by decide +kernel)
theorem dX8_isOverBy_35 : decode cX8_isOverBy 35 = .ok (.iand, 1) := dk_126 (by decide +kernel)
theorem dX8_isOverBy_36 : decode cX8_isOverBy 36 = .ok (.iconst 1, 1) := dk_4 (by decide +kernel)
theorem dX8_isOverBy_37 : decode cX8_isOverBy 37 = .ok (.if_icmp .ne 8, 3) := dk_160 (by decide +kernel)
theorem dX8_isOverBy_45 : decode cX8_isOverBy 45 = .ok (.aload_n 0, 1) := dk_42 (by decide +kernel)
theorem dX8_isOverBy_46 : decode cX8_isOverBy 46 = .ok (.iload 4, 2) := dk_21 (by decide +kernel)
theorem dX8_isOverBy_48 : decode cX8_isOverBy 48 = .ok (.iconst 3, 1) := dk_6 (by decide +kernel)
theorem dX8_isOverBy_49 : decode cX8_isOverBy 49 = .ok (.invokevirtual 65, 3) := dk_182 (by decide +kernel)
theorem dX8_isOverBy_52 : decode cX8_isOverBy 52 = .ok (.invokevirtual 69, 3) := dk_182 (by decide +kernel)
theorem dX8_isOverBy_55 : decode cX8_isOverBy 55 = .ok (.iinc 4 1, 3) := dk_132 (by decide +kernel)
theorem dX8_isOverBy_58 : decode cX8_isOverBy 58 = .ok (.goto (-43), 3) := dk_167 (by decide +kernel)
theorem dX8_isOverBy_40 : decode cX8_isOverBy 40 = .ok (.bipush 99, 2) := dk_16 (by decide +kernel)
theorem dX8_isOverBy_42 : decode cX8_isOverBy 42 = .ok (.goto 10, 3) := dk_167 (by decide +kernel)
theorem dX8_isOverBy_0 : decode cX8_isOverBy 0 = .ok (.aload_n 0, 1) := dk_42 (by decide +kernel)
theorem dX8_isOverBy_1 : decode cX8_isOverBy 1 = .ok (.aload_n 0, 1) := dk_42 (by decide +kernel)
theorem dX8_isOverBy_2 : decode cX8_isOverBy 2 = .ok (.getfield 7, 3) := dk_180 (by decide +kernel)
theorem dX8_isOverBy_5 : decode cX8_isOverBy 5 = .ok (.aload_n 0, 1) := dk_42 (by decide +kernel)
theorem dX8_isOverBy_6 : decode cX8_isOverBy 6 = .ok (.getfield 16, 3) := dk_180 (by decide +kernel)
theorem dX8_isOverBy_9 : decode cX8_isOverBy 9 = .ok (.invokevirtual 175, 3) := dk_182 (by decide +kernel)
theorem dX8_isOverBy_12 : decode cX8_isOverBy 12 = .ok (.iconst 0, 1) := dk_3 (by decide +kernel)
theorem dX8_isOverBy_13 : decode cX8_isOverBy 13 = .ok (.istore 4, 2) := dk_54 (by decide +kernel)
set_option maxRecDepth 100000 in
set_option maxHeartbeats 8000000 in
theorem x_X8_isOverBy (l : Launch) (D : va_G) (y : wY) (ad : Nat → Nat) (i1 : Int32) (i2 : Int32) (i3 : Int32) (M : Mem) (K : Int32 → Mem → Prop) (h : wp_X8_isOverBy i1 i2 i3 M K) : MI l D y ad yX8_isOverBy (Cond.code yX8_isOverBy cX8_isOverBy 5 (some .boolean)) 7 M [.ref (ad 79), .int i1, .int i2, .int i3] K := by
  refine MI_of (by decide) (Nat.le_of_ble_eq_true rfl) ?_
  intro p e s m args below meth c X hr hlocks
  have hL15 : ∀ (i1 : Int32) (i2 : Int32) (i3 : Int32) (n : Nat) (i4 : Int32) (Mb : Mem), wp_X8_isOverBy_L15 K i1 i2 i3 n i4 Mb → J p l e (rmN 7) s m args below meth c 0 0 (QI K D y ad M s args below) D y ad (va_A (PL y ad M) s.heap.size) 5 Mb 15 [(0, .ref (ad 79)), (1, .int i1), (2, .int i2), (3, .int i3), (4, .int i4)] [] := by
    intro i1 i2 i3 n
    induction n with
    | zero => intro i4 Mb h; exact False.elim h
    | succ n hB15 =>
      intro i4 Mb h
      replace h : wp_X8_isOverBy_l15 K i1 i2 i3 (wp_X8_isOverBy_L15 K i1 i2 i3 n) i4 Mb := h
      delta wp_X8_isOverBy_l15 at h
      refine j_iload X 4 rfl dX8_isOverBy_15 ?_
      refine j_aload_n X 0 rfl rfl dX8_isOverBy_17 ?_
      refine j_get X cl_79.1 (wE_8 _ cl_79.2) rfl awF8 0 (by decide) aw_92 rfl (v := .ref (ad 80)) rfl dX8_isOverBy_18 ?_
      refine j_iconst X (v := 2) (by decide) dX8_isOverBy_21 ?_
      refine j_iald X cl_80.1 cl_80.2 (by unfold vp_in; decide) dX8_isOverBy_22 ?_
      refine j_eqi (v := Mb 80 2) rfl ?_
      refine j_icmp_ge X 61 (by decide) dX8_isOverBy_23 (fun q_1501 => ?_) (fun q_1501 => ?_)
      · replace h := h.1 q_1501
        refine j_aload_n X 0 rfl rfl dX8_isOverBy_61 ?_
        refine j_iload_n X 2 rfl rfl dX8_isOverBy_62 ?_
        refine j_callVV X (nn := 1) (As := [.int i2]) (st := []) (ci := 8) cl_79.1 (wE_8 _ cl_79.2) rfl aw_482 aw_483 (x_X8_passes l D y ad i2 _ _ h) aw_481 aw_484 aw_5 (by decide +kernel) ⟨Nat.le_of_ble_eq_true rfl, Nat.le_of_ble_eq_true rfl⟩ rfl (Nat.le_of_ble_eq_true rfl) ⟨Nat.le_of_ble_eq_true rfl, Nat.le_of_ble_eq_true rfl⟩ dX8_isOverBy_63 ?_
        intro M1502 h
        refine j_aload_n X 0 rfl rfl dX8_isOverBy_66 ?_
        refine j_iload_n X 1 rfl rfl dX8_isOverBy_67 ?_
        refine j_callVI X (nn := 1) (As := [.int i1]) (st := []) (ci := 8) cl_79.1 (wE_8 _ cl_79.2) rfl aw_494 aw_495 (x_X8_isOver l D y ad i1 _ _ h) aw_493 aw_496 aw_5 (by decide +kernel) ⟨Nat.le_of_ble_eq_true rfl, Nat.le_of_ble_eq_true rfl⟩ rfl (Nat.le_of_ble_eq_true rfl) ⟨Nat.le_of_ble_eq_true rfl, Nat.le_of_ble_eq_true rfl⟩ dX8_isOverBy_68 ?_
        intro r1503 M1503 h
        refine j_istore X [(4, .int r1503), (0, .ref (ad 79)), (1, .int i1), (2, .int i2), (3, .int i3)] (by decide) rfl dX8_isOverBy_71 ?_
        refine j_aload_n X 1 rfl rfl dX8_isOverBy_73 ?_
        refine j_aload_n X 1 rfl rfl dX8_isOverBy_74 ?_
        refine j_get X cl_79.1 (wE_8 _ cl_79.2) rfl awF8 2 (by decide) aw_94 rfl (v := .ref (ad 82)) rfl dX8_isOverBy_75 ?_
        refine j_aload_n X 1 rfl rfl dX8_isOverBy_78 ?_
        refine j_get X cl_79.1 (wE_8 _ cl_79.2) rfl awF8 0 (by decide) aw_92 rfl (v := .ref (ad 80)) rfl dX8_isOverBy_79 ?_
        refine j_callVV X (nn := 2) (As := [.ref (ad 82), .ref (ad 80)]) (st := []) (ci := 8) cl_79.1 (wE_8 _ cl_79.2) rfl aw_553 aw_554 (x_X8_moveAll l D y ad 82 80 cl_82 cl_80 _ _ h) aw_552 aw_555 aw_5 (by decide +kernel) ⟨Nat.le_of_ble_eq_true rfl, Nat.le_of_ble_eq_true rfl⟩ rfl (Nat.le_of_ble_eq_true rfl) ⟨Nat.le_of_ble_eq_true rfl, Nat.le_of_ble_eq_true rfl⟩ dX8_isOverBy_82 ?_
        intro M1504 h
        refine j_iload X 0 rfl dX8_isOverBy_85 ?_
        obtain ⟨hb_1505, h⟩ := h
        exact j_zret X hr hlocks hb_1505 dX8_isOverBy_87 h
      · replace h := h.2 q_1501
        refine j_aload_n X 0 rfl rfl dX8_isOverBy_26 ?_
        refine j_iload X 4 rfl dX8_isOverBy_27 ?_
        refine j_iconst X (v := 3) (by decide) dX8_isOverBy_29 ?_
        refine j_iload_n X 3 rfl rfl dX8_isOverBy_30 ?_
        refine j_iload X 4 rfl dX8_isOverBy_31 ?_
        refine j_ishr X dX8_isOverBy_33 ?_
        refine j_iconst X (v := 1) (by decide) dX8_isOverBy_34 ?_
        refine j_iand X dX8_isOverBy_35 ?_
        refine j_iconst X (v := 1) (by decide) dX8_isOverBy_36 ?_
        refine j_icmp_ne X 45 (by decide) dX8_isOverBy_37 (fun q_1506 => ?_) (fun q_1506 => ?_)
        · replace h := h.1 q_1506
          refine j_aload_n X 0 rfl rfl dX8_isOverBy_45 ?_
          refine j_iload X 4 rfl dX8_isOverBy_46 ?_
          refine j_iconst X (v := 3) (by decide) dX8_isOverBy_48 ?_
          refine j_callVI X (nn := 2) (As := [.int i4, .int 3]) (st := [.int 3, .int i4, .ref (ad 79)]) (ci := 8) cl_79.1 (wE_8 _ cl_79.2) rfl aw_161 aw_162 (x_X8_its l D y ad i4 3 _ _ h) aw_160 aw_163 aw_5 (by decide +kernel) ⟨Nat.le_of_ble_eq_true rfl, Nat.le_of_ble_eq_true rfl⟩ rfl (Nat.le_of_ble_eq_true rfl) ⟨Nat.le_of_ble_eq_true rfl, Nat.le_of_ble_eq_true rfl⟩ dX8_isOverBy_49 ?_
          intro r1507 M1507 h
          refine j_callVV X (nn := 3) (As := [.int i4, .int 3, .int r1507]) (st := []) (ci := 8) cl_79.1 (wE_8 _ cl_79.2) rfl aw_183 aw_184 (x_X8_gets l D y ad i4 3 r1507 _ _ h) aw_182 aw_185 aw_5 (by decide +kernel) ⟨Nat.le_of_ble_eq_true rfl, Nat.le_of_ble_eq_true rfl⟩ rfl (Nat.le_of_ble_eq_true rfl) ⟨Nat.le_of_ble_eq_true rfl, Nat.le_of_ble_eq_true rfl⟩ dX8_isOverBy_52 ?_
          intro M1508 h
          refine j_iinc X (v := (i4 + 1)) 4 [(4, .int (i4 + 1)), (0, .ref (ad 79)), (1, .int i1), (2, .int i2), (3, .int i3)] rfl rfl (by decide) rfl dX8_isOverBy_55 ?_
          refine j_goto X 15 (by decide) dX8_isOverBy_58 ?_
          refine j_lv (lv1 := [(0, .ref (ad 79)), (1, .int i1), (2, .int i2), (3, .int i3), (4, .int (i4 + 1))]) [1, 2, 3, 4, 0] rfl ?_
          exact hB15 _ _ h
        · replace h := h.2 q_1506
          refine j_bipush X (v := 99) (by decide) dX8_isOverBy_40 ?_
          refine j_goto X 52 (by decide) dX8_isOverBy_42 ?_
          refine j_callVV X (nn := 3) (As := [.int i4, .int 3, .int 99]) (st := []) (ci := 8) cl_79.1 (wE_8 _ cl_79.2) rfl aw_183 aw_184 (x_X8_gets l D y ad i4 3 99 _ _ h) aw_182 aw_185 aw_5 (by decide +kernel) ⟨Nat.le_of_ble_eq_true rfl, Nat.le_of_ble_eq_true rfl⟩ rfl (Nat.le_of_ble_eq_true rfl) ⟨Nat.le_of_ble_eq_true rfl, Nat.le_of_ble_eq_true rfl⟩ dX8_isOverBy_52 ?_
          intro M1509 h
          refine j_iinc X (v := (i4 + 1)) 4 [(4, .int (i4 + 1)), (0, .ref (ad 79)), (1, .int i1), (2, .int i2), (3, .int i3)] rfl rfl (by decide) rfl dX8_isOverBy_55 ?_
          refine j_goto X 15 (by decide) dX8_isOverBy_58 ?_
          refine j_lv (lv1 := [(0, .ref (ad 79)), (1, .int i1), (2, .int i2), (3, .int i3), (4, .int (i4 + 1))]) [1, 2, 3, 4, 0] rfl ?_
          exact hB15 _ _ h
  delta wp_X8_isOverBy at h
  refine j_lv (lv1 := [(0, .ref (ad 79)), (1, .int i1), (2, .int i2), (3, .int i3)]) [0, 1, 2, 3] rfl ?_
  refine j_aload_n X 0 rfl rfl dX8_isOverBy_0 ?_
  refine j_aload_n X 0 rfl rfl dX8_isOverBy_1 ?_
  refine j_get X cl_79.1 (wE_8 _ cl_79.2) rfl awF8 0 (by decide) aw_92 rfl (v := .ref (ad 80)) rfl dX8_isOverBy_2 ?_
  refine j_aload_n X 0 rfl rfl dX8_isOverBy_5 ?_
  refine j_get X cl_79.1 (wE_8 _ cl_79.2) rfl awF8 2 (by decide) aw_94 rfl (v := .ref (ad 82)) rfl dX8_isOverBy_6 ?_
  refine j_callVV X (nn := 2) (As := [.ref (ad 80), .ref (ad 82)]) (st := []) (ci := 8) cl_79.1 (wE_8 _ cl_79.2) rfl aw_553 aw_554 (x_X8_moveAll l D y ad 80 82 cl_80 cl_82 _ _ h) aw_552 aw_555 aw_5 (by decide +kernel) ⟨Nat.le_of_ble_eq_true rfl, Nat.le_of_ble_eq_true rfl⟩ rfl (Nat.le_of_ble_eq_true rfl) ⟨Nat.le_of_ble_eq_true rfl, Nat.le_of_ble_eq_true rfl⟩ dX8_isOverBy_9 ?_
  intro M1 h
  refine j_iconst X (v := 0) (by decide) dX8_isOverBy_12 ?_
  refine j_istore X [(4, .int 0), (0, .ref (ad 79)), (1, .int i1), (2, .int i2), (3, .int i3)] (by decide) rfl dX8_isOverBy_13 ?_
  refine j_lv (lv1 := [(0, .ref (ad 79)), (1, .int i1), (2, .int i2), (3, .int i3), (4, .int 0)]) [1, 2, 3, 4, 0] rfl ?_
  obtain ⟨n15, h⟩ := h
  exact hL15 _ _ _   n15 _ _ h
theorem dX8_hand_36 : decode cX8_hand 36 = .ok (.iload 5, 2) := dk_21 (by decide +kernel)
theorem dX8_hand_38 : decode cX8_hand 38 = .ok (.iconst 1, 1) := dk_4 (by decide +kernel)
theorem dX8_hand_39 : decode cX8_hand 39 = .ok (.aload_n 0, 1) := dk_42 (by decide +kernel)
theorem dX8_hand_40 : decode cX8_hand 40 = .ok (.getfield 7, 3) := dk_180 (by decide +kernel)
theorem dX8_hand_43 : decode cX8_hand 43 = .ok (.iconst 2, 1) := dk_5 (by decide +kernel)
theorem dX8_hand_44 : decode cX8_hand 44 = .ok (.iaload, 1) := dk_46 (by decide +kernel)
theorem dX8_hand_45 : decode cX8_hand 45 = .ok (.ishl, 1) := dk_120 (by decide +kernel)
theorem dX8_hand_46 : decode cX8_hand 46 = .ok (.if_icmp .ge 49, 3) := dk_162 (by decide +kernel)
theorem dX8_hand_95 : decode cX8_hand 95 = .ok (.iload 4, 2) := dk_21 (by decide +kernel)
theorem dX8_hand_97 : decode cX8_hand 97 = .ok (.ifCond .ge 12, 3) := dk_156 (by decide +kernel)
theorem dX8_hand_109 : decode cX8_hand 109 = .ok (.iload 4, 2) := dk_21 (by decide +kernel)
theorem dX8_hand_111 : decode cX8_hand 111 = .ok (.ireturn, 1) := dk_172 (by decide +kernel)
theorem dX8_hand_100 : decode cX8_hand 100 = .ok (.aload_n 0, 1) := dk_42 (by decide +kernel)
theorem dX8_hand_101 : decode cX8_hand 101 = .ok (.ldc 194, 2) := dk_18 (by decide +kernel)
theorem dX8_hand_103 : decode cX8_hand 103 = .ok (.invokevirtual 61, 3) := dk_182 (by decide +kernel)
theorem dX8_hand_106 : decode cX8_hand 106 = .ok (.goto 5, 3) := dk_167 (by decide +kernel)
theorem dX8_hand_49 : decode cX8_hand 49 = .ok (.iload 5, 2) := dk_21 (by decide +kernel)
theorem dX8_hand_51 : decode cX8_hand 51 = .ok (.iload_n 3, 1) := dk_29 (by decide +kernel)
theorem dX8_hand_52 : decode cX8_hand 52 = .ok (.iand, 1) := dk_126 (by decide +kernel)
theorem dX8_hand_53 : decode cX8_hand 53 = .ok (.ifCond .ne 36, 3) := dk_154 (by decide +kernel)
theorem dX8_hand_89 : decode cX8_hand 89 = .ok (.iinc 5 1, 3) := dk_132 (by decide +kernel)
theorem dX8_hand_92 : decode cX8_hand 92 = .ok (.goto (-56), 3) := dk_167 (by decide +kernel)
theorem dX8_hand_56 : decode cX8_hand 56 = .ok (.iload 4, 2) := dk_21 (by decide +kernel)
theorem dX8_hand_58 : decode cX8_hand 58 = .ok (.ifCond .lt 16, 3) := dk_155 (by decide +kernel)
theorem dX8_hand_74 : decode cX8_hand 74 = .ok (.aload_n 0, 1) := dk_42 (by decide +kernel)
theorem dX8_hand_75 : decode cX8_hand 75 = .ok (.iload_n 1, 1) := dk_27 (by decide +kernel)
theorem dX8_hand_76 : decode cX8_hand 76 = .ok (.iload_n 2, 1) := dk_28 (by decide +kernel)
theorem dX8_hand_77 : decode cX8_hand 77 = .ok (.iload 5, 2) := dk_21 (by decide +kernel)
theorem dX8_hand_79 : decode cX8_hand 79 = .ok (.invokevirtual 201, 3) := dk_182 (by decide +kernel)
theorem dX8_hand_82 : decode cX8_hand 82 = .ok (.ifCond .eq 7, 3) := dk_153 (by decide +kernel)
theorem dX8_hand_85 : decode cX8_hand 85 = .ok (.iload 5, 2) := dk_21 (by decide +kernel)
theorem dX8_hand_87 : decode cX8_hand 87 = .ok (.istore 4, 2) := dk_54 (by decide +kernel)
theorem dX8_hand_61 : decode cX8_hand 61 = .ok (.iload 5, 2) := dk_21 (by decide +kernel)
theorem dX8_hand_63 : decode cX8_hand 63 = .ok (.invokestatic 187, 3) := dk_184 (by decide +kernel)
theorem dX8_hand_66 : decode cX8_hand 66 = .ok (.iload 4, 2) := dk_21 (by decide +kernel)
theorem dX8_hand_68 : decode cX8_hand 68 = .ok (.invokestatic 187, 3) := dk_184 (by decide +kernel)
theorem dX8_hand_71 : decode cX8_hand 71 = .ok (.if_icmp .ge 18, 3) := dk_162 (by decide +kernel)
theorem dX8_hand_0 : decode cX8_hand 0 = .ok (.aload_n 0, 1) := dk_42 (by decide +kernel)
theorem dX8_hand_1 : decode cX8_hand 1 = .ok (.iload_n 1, 1) := dk_27 (by decide +kernel)
theorem dX8_hand_2 : decode cX8_hand 2 = .ok (.invokevirtual 73, 3) := dk_182 (by decide +kernel)
theorem dX8_hand_5 : decode cX8_hand 5 = .ok (.ifCond .eq 13, 3) := dk_153 (by decide +kernel)
theorem dX8_hand_18 : decode cX8_hand 18 = .ok (.aload_n 0, 1) := dk_42 (by decide +kernel)
theorem dX8_hand_19 : decode cX8_hand 19 = .ok (.ldc 60, 2) := dk_18 (by decide +kernel)
theorem dX8_hand_21 : decode cX8_hand 21 = .ok (.invokevirtual 61, 3) := dk_182 (by decide +kernel)
theorem dX8_hand_24 : decode cX8_hand 24 = .ok (.ireturn, 1) := dk_172 (by decide +kernel)
theorem dX8_hand_8 : decode cX8_hand 8 = .ok (.iload_n 2, 1) := dk_28 (by decide +kernel)
theorem dX8_hand_9 : decode cX8_hand 9 = .ok (.iconst 0, 1) := dk_3 (by decide +kernel)
theorem dX8_hand_10 : decode cX8_hand 10 = .ok (.bipush 20, 2) := dk_16 (by decide +kernel)
theorem dX8_hand_12 : decode cX8_hand 12 = .ok (.invokestatic 47, 3) := dk_184 (by decide +kernel)
theorem dX8_hand_15 : decode cX8_hand 15 = .ok (.ifCond .ne 10, 3) := dk_154 (by decide +kernel)
theorem dX8_hand_25 : decode cX8_hand 25 = .ok (.aload_n 0, 1) := dk_42 (by decide +kernel)
theorem dX8_hand_26 : decode cX8_hand 26 = .ok (.invokevirtual 182, 3) := dk_182 (by decide +kernel)
theorem dX8_hand_29 : decode cX8_hand 29 = .ok (.istore_n 3, 1) := dk_62 (by decide +kernel)
theorem dX8_hand_30 : decode cX8_hand 30 = .ok (.iconst (-1), 1) := dk_2 (by decide +kernel)
theorem dX8_hand_31 : decode cX8_hand 31 = .ok (.istore 4, 2) := dk_54 (by decide +kernel)
theorem dX8_hand_33 : decode cX8_hand 33 = .ok (.iconst 0, 1) := dk_3 (by decide +kernel)
theorem dX8_hand_34 : decode cX8_hand 34 = .ok (.istore 5, 2) := dk_54 (by decide +kernel)
set_option maxRecDepth 100000 in
set_option maxHeartbeats 8000000 in
theorem x_X8_hand (l : Launch) (D : va_G) (y : wY) (ad : Nat → Nat) (i1 : Int32) (i2 : Int32) (M : Mem) (K : Int32 → Mem → Prop) (h : wp_X8_hand i1 i2 M K) : MI l D y ad yX8_hand (Cond.code yX8_hand cX8_hand 6 (some .int)) 8 M [.ref (ad 79), .int i1, .int i2] K := by
  refine MI_of (by decide) (Nat.le_of_ble_eq_true rfl) ?_
  intro p e s m args below meth c X hr hlocks
  have hL36 : ∀ (i1 : Int32) (i2 : Int32) (i3 : Int32) (n : Nat) (i4 : Int32) (i5 : Int32) (Mb : Mem), wp_X8_hand_L36 K i1 i2 i3 n i4 i5 Mb → J p l e (rmN 8) s m args below meth c 0 0 (QI K D y ad M s args below) D y ad (va_A (PL y ad M) s.heap.size) 6 Mb 36 [(0, .ref (ad 79)), (1, .int i1), (2, .int i2), (3, .int i3), (4, .int i4), (5, .int i5)] [] := by
    intro i1 i2 i3 n
    induction n with
    | zero => intro i4 i5 Mb h; exact False.elim h
    | succ n hB36 =>
      intro i4 i5 Mb h
      replace h : wp_X8_hand_l36 K i1 i2 i3 (wp_X8_hand_L36 K i1 i2 i3 n) i4 i5 Mb := h
      delta wp_X8_hand_l36 at h
      refine j_iload X 5 rfl dX8_hand_36 ?_
      refine j_iconst X (v := 1) (by decide) dX8_hand_38 ?_
      refine j_aload_n X 0 rfl rfl dX8_hand_39 ?_
      refine j_get X cl_79.1 (wE_8 _ cl_79.2) rfl awF8 0 (by decide) aw_92 rfl (v := .ref (ad 80)) rfl dX8_hand_40 ?_
      refine j_iconst X (v := 2) (by decide) dX8_hand_43 ?_
      refine j_iald X cl_80.1 cl_80.2 (by unfold vp_in; decide) dX8_hand_44 ?_
      refine j_eqi (v := Mb 80 2) rfl ?_
      refine j_ishl X dX8_hand_45 ?_
      refine j_icmp_ge X 95 (by decide) dX8_hand_46 (fun q_3601 => ?_) (fun q_3601 => ?_)
      · replace h := h.1 q_3601
        refine j_iload X 4 rfl dX8_hand_95 ?_
        refine j_if_ge X 109 (by decide) dX8_hand_97 (fun q_3602 => ?_) (fun q_3602 => ?_)
        · replace h := h.1 q_3602
          refine j_iload X 4 rfl dX8_hand_109 ?_
          exact j_iret X hr hlocks dX8_hand_111 h
        · replace h := h.2 q_3602
          refine j_aload_n X 0 rfl rfl dX8_hand_100 ?_
          refine j_ldc X (v := (-1000000002)) aw_565 dX8_hand_101 ?_
          refine j_callVI X (nn := 1) (As := [.int (-1000000002)]) (st := []) (ci := 8) cl_79.1 (wE_8 _ cl_79.2) rfl aw_144 aw_145 (x_X8_errs l D y ad (-1000000002) _ _ h) aw_143 aw_146 aw_5 (by decide +kernel) ⟨Nat.le_of_ble_eq_true rfl, Nat.le_of_ble_eq_true rfl⟩ rfl (Nat.le_of_ble_eq_true rfl) ⟨Nat.le_of_ble_eq_true rfl, Nat.le_of_ble_eq_true rfl⟩ dX8_hand_103 ?_
          intro r3603 M3603 h
          refine j_goto X 111 (by decide) dX8_hand_106 ?_
          exact j_iret X hr hlocks dX8_hand_111 h
      · replace h := h.2 q_3601
        refine j_iload X 5 rfl dX8_hand_49 ?_
        refine j_iload_n X 3 rfl rfl dX8_hand_51 ?_
        refine j_iand X dX8_hand_52 ?_
        refine j_if_ne X 89 (by decide) dX8_hand_53 (fun q_3604 => ?_) (fun q_3604 => ?_)
        · replace h := h.1 q_3604
          refine j_iinc X (v := (i5 + 1)) 5 [(5, .int (i5 + 1)), (0, .ref (ad 79)), (1, .int i1), (2, .int i2), (3, .int i3), (4, .int i4)] rfl rfl (by decide) rfl dX8_hand_89 ?_
          refine j_goto X 36 (by decide) dX8_hand_92 ?_
          refine j_lv (lv1 := [(0, .ref (ad 79)), (1, .int i1), (2, .int i2), (3, .int i3), (4, .int i4), (5, .int (i5 + 1))]) [1, 2, 3, 4, 5, 0] rfl ?_
          exact hB36 _ _ _ h
        · replace h := h.2 q_3604
          refine j_iload X 4 rfl dX8_hand_56 ?_
          refine j_if_lt X 74 (by decide) dX8_hand_58 (fun q_3605 => ?_) (fun q_3605 => ?_)
          · replace h := h.1 q_3605
            refine j_aload_n X 0 rfl rfl dX8_hand_74 ?_
            refine j_iload_n X 1 rfl rfl dX8_hand_75 ?_
            refine j_iload_n X 2 rfl rfl dX8_hand_76 ?_
            refine j_iload X 5 rfl dX8_hand_77 ?_
            refine j_callVI X (nn := 3) (As := [.int i1, .int i2, .int i5]) (st := []) (ci := 8) cl_79.1 (wE_8 _ cl_79.2) rfl aw_618 aw_619 (x_X8_isOverBy l D y ad i1 i2 i5 _ _ h) aw_617 aw_620 aw_5 (by decide +kernel) ⟨Nat.le_of_ble_eq_true rfl, Nat.le_of_ble_eq_true rfl⟩ rfl (Nat.le_of_ble_eq_true rfl) ⟨Nat.le_of_ble_eq_true rfl, Nat.le_of_ble_eq_true rfl⟩ dX8_hand_79 ?_
            intro r3606 M3606 h
            refine j_if_eq X 89 (by decide) dX8_hand_82 (fun q_3607 => ?_) (fun q_3607 => ?_)
            · replace h := h.1 q_3607
              refine j_iinc X (v := (i5 + 1)) 5 [(5, .int (i5 + 1)), (0, .ref (ad 79)), (1, .int i1), (2, .int i2), (3, .int i3), (4, .int i4)] rfl rfl (by decide) rfl dX8_hand_89 ?_
              refine j_goto X 36 (by decide) dX8_hand_92 ?_
              refine j_lv (lv1 := [(0, .ref (ad 79)), (1, .int i1), (2, .int i2), (3, .int i3), (4, .int i4), (5, .int (i5 + 1))]) [1, 2, 3, 4, 5, 0] rfl ?_
              exact hB36 _ _ _ h
            · replace h := h.2 q_3607
              refine j_iload X 5 rfl dX8_hand_85 ?_
              refine j_istore X [(4, .int i5), (0, .ref (ad 79)), (1, .int i1), (2, .int i2), (3, .int i3), (5, .int i5)] (by decide) rfl dX8_hand_87 ?_
              refine j_iinc X (v := (i5 + 1)) 5 [(5, .int (i5 + 1)), (4, .int i5), (0, .ref (ad 79)), (1, .int i1), (2, .int i2), (3, .int i3)] rfl rfl (by decide) rfl dX8_hand_89 ?_
              refine j_goto X 36 (by decide) dX8_hand_92 ?_
              refine j_lv (lv1 := [(0, .ref (ad 79)), (1, .int i1), (2, .int i2), (3, .int i3), (4, .int i5), (5, .int (i5 + 1))]) [2, 3, 4, 5, 1, 0] rfl ?_
              exact hB36 _ _ _ h
          · replace h := h.2 q_3605
            refine j_iload X 5 rfl dX8_hand_61 ?_
            refine j_callSI X (nn := 1) (As := [.int i5]) (st := []) aw_510 (x_X8_bits l D y ad i5 _ _ h) aw_509 aw_511 aw_5 (by decide +kernel) ⟨Nat.le_of_ble_eq_true rfl, Nat.le_of_ble_eq_true rfl⟩ rfl (Nat.le_of_ble_eq_true rfl) ⟨Nat.le_of_ble_eq_true rfl, Nat.le_of_ble_eq_true rfl⟩ dX8_hand_63 ?_
            intro r3608 M3608 h
            refine j_iload X 4 rfl dX8_hand_66 ?_
            refine j_callSI X (nn := 1) (As := [.int i4]) (st := [.int r3608]) aw_510 (x_X8_bits l D y ad i4 _ _ h) aw_509 aw_511 aw_5 (by decide +kernel) ⟨Nat.le_of_ble_eq_true rfl, Nat.le_of_ble_eq_true rfl⟩ rfl (Nat.le_of_ble_eq_true rfl) ⟨Nat.le_of_ble_eq_true rfl, Nat.le_of_ble_eq_true rfl⟩ dX8_hand_68 ?_
            intro r3609 M3609 h
            refine j_icmp_ge X 89 (by decide) dX8_hand_71 (fun q_3610 => ?_) (fun q_3610 => ?_)
            · replace h := h.1 q_3610
              refine j_iinc X (v := (i5 + 1)) 5 [(5, .int (i5 + 1)), (0, .ref (ad 79)), (1, .int i1), (2, .int i2), (3, .int i3), (4, .int i4)] rfl rfl (by decide) rfl dX8_hand_89 ?_
              refine j_goto X 36 (by decide) dX8_hand_92 ?_
              refine j_lv (lv1 := [(0, .ref (ad 79)), (1, .int i1), (2, .int i2), (3, .int i3), (4, .int i4), (5, .int (i5 + 1))]) [1, 2, 3, 4, 5, 0] rfl ?_
              exact hB36 _ _ _ h
            · replace h := h.2 q_3610
              refine j_aload_n X 0 rfl rfl dX8_hand_74 ?_
              refine j_iload_n X 1 rfl rfl dX8_hand_75 ?_
              refine j_iload_n X 2 rfl rfl dX8_hand_76 ?_
              refine j_iload X 5 rfl dX8_hand_77 ?_
              refine j_callVI X (nn := 3) (As := [.int i1, .int i2, .int i5]) (st := []) (ci := 8) cl_79.1 (wE_8 _ cl_79.2) rfl aw_618 aw_619 (x_X8_isOverBy l D y ad i1 i2 i5 _ _ h) aw_617 aw_620 aw_5 (by decide +kernel) ⟨Nat.le_of_ble_eq_true rfl, Nat.le_of_ble_eq_true rfl⟩ rfl (Nat.le_of_ble_eq_true rfl) ⟨Nat.le_of_ble_eq_true rfl, Nat.le_of_ble_eq_true rfl⟩ dX8_hand_79 ?_
              intro r3611 M3611 h
              refine j_if_eq X 89 (by decide) dX8_hand_82 (fun q_3612 => ?_) (fun q_3612 => ?_)
              · replace h := h.1 q_3612
                refine j_iinc X (v := (i5 + 1)) 5 [(5, .int (i5 + 1)), (0, .ref (ad 79)), (1, .int i1), (2, .int i2), (3, .int i3), (4, .int i4)] rfl rfl (by decide) rfl dX8_hand_89 ?_
                refine j_goto X 36 (by decide) dX8_hand_92 ?_
                refine j_lv (lv1 := [(0, .ref (ad 79)), (1, .int i1), (2, .int i2), (3, .int i3), (4, .int i4), (5, .int (i5 + 1))]) [1, 2, 3, 4, 5, 0] rfl ?_
                exact hB36 _ _ _ h
              · replace h := h.2 q_3612
                refine j_iload X 5 rfl dX8_hand_85 ?_
                refine j_istore X [(4, .int i5), (0, .ref (ad 79)), (1, .int i1), (2, .int i2), (3, .int i3), (5, .int i5)] (by decide) rfl dX8_hand_87 ?_
                refine j_iinc X (v := (i5 + 1)) 5 [(5, .int (i5 + 1)), (4, .int i5), (0, .ref (ad 79)), (1, .int i1), (2, .int i2), (3, .int i3)] rfl rfl (by decide) rfl dX8_hand_89 ?_
                refine j_goto X 36 (by decide) dX8_hand_92 ?_
                refine j_lv (lv1 := [(0, .ref (ad 79)), (1, .int i1), (2, .int i2), (3, .int i3), (4, .int i5), (5, .int (i5 + 1))]) [2, 3, 4, 5, 1, 0] rfl ?_
                exact hB36 _ _ _ h
  delta wp_X8_hand at h
  refine j_lv (lv1 := [(0, .ref (ad 79)), (1, .int i1), (2, .int i2)]) [0, 1, 2] rfl ?_
  refine j_aload_n X 0 rfl rfl dX8_hand_0 ?_
  refine j_iload_n X 1 rfl rfl dX8_hand_1 ?_
  refine j_callVI X (nn := 1) (As := [.int i1]) (st := []) (ci := 8) cl_79.1 (wE_8 _ cl_79.2) rfl aw_231 aw_232 (x_X8_isQuarrel l D y ad i1 _ _ h) aw_230 aw_233 aw_5 (by decide +kernel) ⟨Nat.le_of_ble_eq_true rfl, Nat.le_of_ble_eq_true rfl⟩ rfl (Nat.le_of_ble_eq_true rfl) ⟨Nat.le_of_ble_eq_true rfl, Nat.le_of_ble_eq_true rfl⟩ dX8_hand_2 ?_
  intro r1 M1 h
  refine j_if_eq X 18 (by decide) dX8_hand_5 (fun q_2 => ?_) (fun q_2 => ?_)
  · replace h := h.1 q_2
    refine j_aload_n X 0 rfl rfl dX8_hand_18 ?_
    refine j_ldc X (v := (-1000000001)) aw_132 dX8_hand_19 ?_
    refine j_callVI X (nn := 1) (As := [.int (-1000000001)]) (st := []) (ci := 8) cl_79.1 (wE_8 _ cl_79.2) rfl aw_144 aw_145 (x_X8_errs l D y ad (-1000000001) _ _ h) aw_143 aw_146 aw_5 (by decide +kernel) ⟨Nat.le_of_ble_eq_true rfl, Nat.le_of_ble_eq_true rfl⟩ rfl (Nat.le_of_ble_eq_true rfl) ⟨Nat.le_of_ble_eq_true rfl, Nat.le_of_ble_eq_true rfl⟩ dX8_hand_21 ?_
    intro r3 M3 h
    exact j_iret X hr hlocks dX8_hand_24 h
  · replace h := h.2 q_2
    refine j_iload_n X 2 rfl rfl dX8_hand_8 ?_
    refine j_iconst X (v := 0) (by decide) dX8_hand_9 ?_
    refine j_bipush X (v := 20) (by decide) dX8_hand_10 ?_
    refine j_callSI X (nn := 3) (As := [.int i2, .int 0, .int 20]) (st := []) aw_134 (x_X8_in l D y ad i2 0 20 _ _ h) aw_133 aw_135 aw_5 (by decide +kernel) ⟨Nat.le_of_ble_eq_true rfl, Nat.le_of_ble_eq_true rfl⟩ rfl (Nat.le_of_ble_eq_true rfl) ⟨Nat.le_of_ble_eq_true rfl, Nat.le_of_ble_eq_true rfl⟩ dX8_hand_12 ?_
    intro r4 M4 h
    refine j_if_ne X 25 (by decide) dX8_hand_15 (fun q_5 => ?_) (fun q_5 => ?_)
    · replace h := h.1 q_5
      refine j_aload_n X 0 rfl rfl dX8_hand_25 ?_
      refine j_callVI X (nn := 0) (As := []) (st := []) (ci := 8) cl_79.1 (wE_8 _ cl_79.2) rfl aw_506 aw_507 (x_X8_overSet l D y ad  _ _ h) aw_505 aw_508 aw_5 (by decide +kernel) ⟨Nat.le_of_ble_eq_true rfl, Nat.le_of_ble_eq_true rfl⟩ rfl (Nat.le_of_ble_eq_true rfl) ⟨Nat.le_of_ble_eq_true rfl, Nat.le_of_ble_eq_true rfl⟩ dX8_hand_26 ?_
      intro r6 M6 h
      refine j_istore_n X [(3, .int r6), (0, .ref (ad 79)), (1, .int i1), (2, .int i2)] rfl (by decide) rfl dX8_hand_29 ?_
      refine j_iconst X (v := (-1)) (by decide) dX8_hand_30 ?_
      refine j_istore X [(4, .int (-1)), (3, .int r6), (0, .ref (ad 79)), (1, .int i1), (2, .int i2)] (by decide) rfl dX8_hand_31 ?_
      refine j_iconst X (v := 0) (by decide) dX8_hand_33 ?_
      refine j_istore X [(5, .int 0), (4, .int (-1)), (3, .int r6), (0, .ref (ad 79)), (1, .int i1), (2, .int i2)] (by decide) rfl dX8_hand_34 ?_
      refine j_lv (lv1 := [(0, .ref (ad 79)), (1, .int i1), (2, .int i2), (3, .int r6), (4, .int (-1)), (5, .int 0)]) [3, 4, 5, 2, 1, 0] rfl ?_
      obtain ⟨n36, h⟩ := h
      exact hL36 _ _ _   n36 _ _ _ h
    · replace h := h.2 q_5
      refine j_aload_n X 0 rfl rfl dX8_hand_18 ?_
      refine j_ldc X (v := (-1000000001)) aw_132 dX8_hand_19 ?_
      refine j_callVI X (nn := 1) (As := [.int (-1000000001)]) (st := []) (ci := 8) cl_79.1 (wE_8 _ cl_79.2) rfl aw_144 aw_145 (x_X8_errs l D y ad (-1000000001) _ _ h) aw_143 aw_146 aw_5 (by decide +kernel) ⟨Nat.le_of_ble_eq_true rfl, Nat.le_of_ble_eq_true rfl⟩ rfl (Nat.le_of_ble_eq_true rfl) ⟨Nat.le_of_ble_eq_true rfl, Nat.le_of_ble_eq_true rfl⟩ dX8_hand_21 ?_
      intro r7 M7 h
      exact j_iret X hr hlocks dX8_hand_24 h
theorem dX8_first_63 : decode cX8_first 63 = .ok (.iload 5, 2) := dk_21 (by decide +kernel)
theorem dX8_first_65 : decode cX8_first 65 = .ok (.aload_n 0, 1) := dk_42 (by decide +kernel)
theorem dX8_first_66 : decode cX8_first 66 = .ok (.getfield 16, 3) := dk_180 (by decide +kernel)
theorem dX8_first_69 : decode cX8_first 69 = .ok (.iconst 2, 1) := dk_5 (by decide +kernel)
theorem dX8_first_70 : decode cX8_first 70 = .ok (.iaload, 1) := dk_46 (by decide +kernel)
theorem dX8_first_71 : decode cX8_first 71 = .ok (.if_icmp .ge 73, 3) := dk_162 (by decide +kernel)
theorem dX8_first_144 : decode cX8_first 144 = .ok (.iload_n 2, 1) := dk_28 (by decide +kernel)
theorem dX8_first_145 : decode cX8_first 145 = .ok (.ifCond .ne 7, 3) := dk_154 (by decide +kernel)
theorem dX8_first_152 : decode cX8_first 152 = .ok (.iload 4, 2) := dk_21 (by decide +kernel)
theorem dX8_first_154 : decode cX8_first 154 = .ok (.aload_n 0, 1) := dk_42 (by decide +kernel)
theorem dX8_first_155 : decode cX8_first 155 = .ok (.getfield 7, 3) := dk_180 (by decide +kernel)
theorem dX8_first_158 : decode cX8_first 158 = .ok (.bipush 9, 2) := dk_16 (by decide +kernel)
theorem dX8_first_160 : decode cX8_first 160 = .ok (.iaload, 1) := dk_46 (by decide +kernel)
theorem dX8_first_161 : decode cX8_first 161 = .ok (.isub, 1) := dk_100 (by decide +kernel)
theorem dX8_first_162 : decode cX8_first 162 = .ok (.ireturn, 1) := dk_172 (by decide +kernel)
theorem dX8_first_148 : decode cX8_first 148 = .ok (.iload_n 3, 1) := dk_29 (by decide +kernel)
theorem dX8_first_149 : decode cX8_first 149 = .ok (.goto 13, 3) := dk_167 (by decide +kernel)
theorem dX8_first_74 : decode cX8_first 74 = .ok (.aload_n 0, 1) := dk_42 (by decide +kernel)
theorem dX8_first_75 : decode cX8_first 75 = .ok (.iload 5, 2) := dk_21 (by decide +kernel)
theorem dX8_first_77 : decode cX8_first 77 = .ok (.iconst 5, 1) := dk_8 (by decide +kernel)
theorem dX8_first_78 : decode cX8_first 78 = .ok (.iconst 1, 1) := dk_4 (by decide +kernel)
theorem dX8_first_79 : decode cX8_first 79 = .ok (.invokevirtual 69, 3) := dk_182 (by decide +kernel)
theorem dX8_first_82 : decode cX8_first 82 = .ok (.aload_n 0, 1) := dk_42 (by decide +kernel)
theorem dX8_first_83 : decode cX8_first 83 = .ok (.iload_n 1, 1) := dk_27 (by decide +kernel)
theorem dX8_first_84 : decode cX8_first 84 = .ok (.invokevirtual 179, 3) := dk_182 (by decide +kernel)
theorem dX8_first_87 : decode cX8_first 87 = .ok (.aload_n 0, 1) := dk_42 (by decide +kernel)
theorem dX8_first_88 : decode cX8_first 88 = .ok (.getfield 7, 3) := dk_180 (by decide +kernel)
theorem dX8_first_91 : decode cX8_first 91 = .ok (.bipush 9, 2) := dk_16 (by decide +kernel)
theorem dX8_first_93 : decode cX8_first 93 = .ok (.iaload, 1) := dk_46 (by decide +kernel)
theorem dX8_first_94 : decode cX8_first 94 = .ok (.istore 6, 2) := dk_54 (by decide +kernel)
theorem dX8_first_96 : decode cX8_first 96 = .ok (.aload_n 0, 1) := dk_42 (by decide +kernel)
theorem dX8_first_97 : decode cX8_first 97 = .ok (.aload_n 0, 1) := dk_42 (by decide +kernel)
theorem dX8_first_98 : decode cX8_first 98 = .ok (.getfield 16, 3) := dk_180 (by decide +kernel)
theorem dX8_first_101 : decode cX8_first 101 = .ok (.aload_n 0, 1) := dk_42 (by decide +kernel)
theorem dX8_first_102 : decode cX8_first 102 = .ok (.getfield 7, 3) := dk_180 (by decide +kernel)
theorem dX8_first_105 : decode cX8_first 105 = .ok (.invokevirtual 175, 3) := dk_182 (by decide +kernel)
theorem dX8_first_108 : decode cX8_first 108 = .ok (.iload 6, 2) := dk_21 (by decide +kernel)
theorem dX8_first_110 : decode cX8_first 110 = .ok (.iload 4, 2) := dk_21 (by decide +kernel)
theorem dX8_first_112 : decode cX8_first 112 = .ok (.if_icmp .ge 8, 3) := dk_162 (by decide +kernel)
theorem dX8_first_120 : decode cX8_first 120 = .ok (.iload_n 3, 1) := dk_29 (by decide +kernel)
theorem dX8_first_121 : decode cX8_first 121 = .ok (.istore_n 3, 1) := dk_62 (by decide +kernel)
theorem dX8_first_122 : decode cX8_first 122 = .ok (.iload 6, 2) := dk_21 (by decide +kernel)
theorem dX8_first_124 : decode cX8_first 124 = .ok (.iload 4, 2) := dk_21 (by decide +kernel)
theorem dX8_first_126 : decode cX8_first 126 = .ok (.if_icmp .ge 8, 3) := dk_162 (by decide +kernel)
theorem dX8_first_134 : decode cX8_first 134 = .ok (.iload 4, 2) := dk_21 (by decide +kernel)
theorem dX8_first_136 : decode cX8_first 136 = .ok (.istore 4, 2) := dk_54 (by decide +kernel)
theorem dX8_first_138 : decode cX8_first 138 = .ok (.iinc 5 1, 3) := dk_132 (by decide +kernel)
theorem dX8_first_141 : decode cX8_first 141 = .ok (.goto (-78), 3) := dk_167 (by decide +kernel)
theorem dX8_first_129 : decode cX8_first 129 = .ok (.iload 6, 2) := dk_21 (by decide +kernel)
theorem dX8_first_131 : decode cX8_first 131 = .ok (.goto 5, 3) := dk_167 (by decide +kernel)
theorem dX8_first_115 : decode cX8_first 115 = .ok (.iload 5, 2) := dk_21 (by decide +kernel)
theorem dX8_first_117 : decode cX8_first 117 = .ok (.goto 4, 3) := dk_167 (by decide +kernel)
theorem dX8_first_0 : decode cX8_first 0 = .ok (.iload_n 1, 1) := dk_27 (by decide +kernel)
theorem dX8_first_1 : decode cX8_first 1 = .ok (.iconst 0, 1) := dk_3 (by decide +kernel)
theorem dX8_first_2 : decode cX8_first 2 = .ok (.bipush 60, 2) := dk_16 (by decide +kernel)
theorem dX8_first_4 : decode cX8_first 4 = .ok (.invokestatic 47, 3) := dk_184 (by decide +kernel)
theorem dX8_first_7 : decode cX8_first 7 = .ok (.ifCond .eq 12, 3) := dk_153 (by decide +kernel)
theorem dX8_first_19 : decode cX8_first 19 = .ok (.aload_n 0, 1) := dk_42 (by decide +kernel)
theorem dX8_first_20 : decode cX8_first 20 = .ok (.ldc 60, 2) := dk_18 (by decide +kernel)
theorem dX8_first_22 : decode cX8_first 22 = .ok (.invokevirtual 61, 3) := dk_182 (by decide +kernel)
theorem dX8_first_25 : decode cX8_first 25 = .ok (.ireturn, 1) := dk_172 (by decide +kernel)
theorem dX8_first_10 : decode cX8_first 10 = .ok (.iload_n 2, 1) := dk_28 (by decide +kernel)
theorem dX8_first_11 : decode cX8_first 11 = .ok (.iconst 0, 1) := dk_3 (by decide +kernel)
theorem dX8_first_12 : decode cX8_first 12 = .ok (.iconst 1, 1) := dk_4 (by decide +kernel)
theorem dX8_first_13 : decode cX8_first 13 = .ok (.invokestatic 47, 3) := dk_184 (by decide +kernel)
theorem dX8_first_16 : decode cX8_first 16 = .ok (.ifCond .ne 10, 3) := dk_154 (by decide +kernel)
theorem dX8_first_26 : decode cX8_first 26 = .ok (.aload_n 0, 1) := dk_42 (by decide +kernel)
theorem dX8_first_27 : decode cX8_first 27 = .ok (.getfield 7, 3) := dk_180 (by decide +kernel)
theorem dX8_first_30 : decode cX8_first 30 = .ok (.iconst 2, 1) := dk_5 (by decide +kernel)
theorem dX8_first_31 : decode cX8_first 31 = .ok (.iaload, 1) := dk_46 (by decide +kernel)
theorem dX8_first_32 : decode cX8_first 32 = .ok (.ifCond .ne 10, 3) := dk_154 (by decide +kernel)
theorem dX8_first_42 : decode cX8_first 42 = .ok (.iconst 0, 1) := dk_3 (by decide +kernel)
theorem dX8_first_43 : decode cX8_first 43 = .ok (.istore_n 3, 1) := dk_62 (by decide +kernel)
theorem dX8_first_44 : decode cX8_first 44 = .ok (.ldc 204, 2) := dk_18 (by decide +kernel)
theorem dX8_first_46 : decode cX8_first 46 = .ok (.istore 4, 2) := dk_54 (by decide +kernel)
theorem dX8_first_48 : decode cX8_first 48 = .ok (.aload_n 0, 1) := dk_42 (by decide +kernel)
theorem dX8_first_49 : decode cX8_first 49 = .ok (.aload_n 0, 1) := dk_42 (by decide +kernel)
theorem dX8_first_50 : decode cX8_first 50 = .ok (.getfield 7, 3) := dk_180 (by decide +kernel)
theorem dX8_first_53 : decode cX8_first 53 = .ok (.aload_n 0, 1) := dk_42 (by decide +kernel)
theorem dX8_first_54 : decode cX8_first 54 = .ok (.getfield 16, 3) := dk_180 (by decide +kernel)
theorem dX8_first_57 : decode cX8_first 57 = .ok (.invokevirtual 175, 3) := dk_182 (by decide +kernel)
theorem dX8_first_60 : decode cX8_first 60 = .ok (.iconst 0, 1) := dk_3 (by decide +kernel)
theorem dX8_first_61 : decode cX8_first 61 = .ok (.istore 5, 2) := dk_54 (by decide +kernel)
theorem dX8_first_35 : decode cX8_first 35 = .ok (.aload_n 0, 1) := dk_42 (by decide +kernel)
theorem dX8_first_36 : decode cX8_first 36 = .ok (.ldc 194, 2) := dk_18 (by decide +kernel)
theorem dX8_first_38 : decode cX8_first 38 = .ok (.invokevirtual 61, 3) := dk_182 (by decide +kernel)
theorem dX8_first_41 : decode cX8_first 41 = .ok (.ireturn, 1) := dk_172 (by decide +kernel)
set_option maxRecDepth 100000 in
set_option maxHeartbeats 8000000 in
theorem x_X8_first (l : Launch) (D : va_G) (y : wY) (ad : Nat → Nat) (i1 : Int32) (i2 : Int32) (M : Mem) (K : Int32 → Mem → Prop) (h : wp_X8_first i1 i2 M K) : MI l D y ad yX8_first (Cond.code yX8_first cX8_first 7 (some .int)) 7 M [.ref (ad 79), .int i1, .int i2] K := by
  refine MI_of (by decide) (Nat.le_of_ble_eq_true rfl) ?_
  intro p e s m args below meth c X hr hlocks
  have hL63 : ∀ (i1 : Int32) (i2 : Int32) (n : Nat) (i3 : Int32) (i4 : Int32) (i5 : Int32) (Mb : Mem), wp_X8_first_L63 K i1 i2 n i3 i4 i5 Mb → J p l e (rmN 7) s m args below meth c 0 0 (QI K D y ad M s args below) D y ad (va_A (PL y ad M) s.heap.size) 7 Mb 63 [(0, .ref (ad 79)), (1, .int i1), (2, .int i2), (3, .int i3), (4, .int i4), (5, .int i5)] [] := by
    intro i1 i2 n
    induction n with
    | zero => intro i3 i4 i5 Mb h; exact False.elim h
    | succ n hB63 =>
      intro i3 i4 i5 Mb h
      replace h : wp_X8_first_l63 K i1 i2 (wp_X8_first_L63 K i1 i2 n) i3 i4 i5 Mb := h
      delta wp_X8_first_l63 at h
      refine j_iload X 5 rfl dX8_first_63 ?_
      refine j_aload_n X 0 rfl rfl dX8_first_65 ?_
      refine j_get X cl_79.1 (wE_8 _ cl_79.2) rfl awF8 2 (by decide) aw_94 rfl (v := .ref (ad 82)) rfl dX8_first_66 ?_
      refine j_iconst X (v := 2) (by decide) dX8_first_69 ?_
      refine j_iald X cl_82.1 cl_82.2 (by unfold vp_in; decide) dX8_first_70 ?_
      refine j_eqi (v := Mb 82 2) rfl ?_
      refine j_icmp_ge X 144 (by decide) dX8_first_71 (fun q_6301 => ?_) (fun q_6301 => ?_)
      · replace h := h.1 q_6301
        refine j_iload_n X 2 rfl rfl dX8_first_144 ?_
        refine j_if_ne X 152 (by decide) dX8_first_145 (fun q_6302 => ?_) (fun q_6302 => ?_)
        · replace h := h.1 q_6302
          refine j_iload X 4 rfl dX8_first_152 ?_
          refine j_aload_n X 0 rfl rfl dX8_first_154 ?_
          refine j_get X cl_79.1 (wE_8 _ cl_79.2) rfl awF8 0 (by decide) aw_92 rfl (v := .ref (ad 80)) rfl dX8_first_155 ?_
          refine j_bipush X (v := 9) (by decide) dX8_first_158 ?_
          refine j_iald X cl_80.1 cl_80.2 (by unfold vp_in; decide) dX8_first_160 ?_
          refine j_eqi (v := Mb 80 9) rfl ?_
          refine j_isub X dX8_first_161 ?_
          exact j_iret X hr hlocks dX8_first_162 h
        · replace h := h.2 q_6302
          refine j_iload_n X 3 rfl rfl dX8_first_148 ?_
          refine j_goto X 162 (by decide) dX8_first_149 ?_
          exact j_iret X hr hlocks dX8_first_162 h
      · replace h := h.2 q_6301
        refine j_aload_n X 0 rfl rfl dX8_first_74 ?_
        refine j_iload X 5 rfl dX8_first_75 ?_
        refine j_iconst X (v := 5) (by decide) dX8_first_77 ?_
        refine j_iconst X (v := 1) (by decide) dX8_first_78 ?_
        refine j_callVV X (nn := 3) (As := [.int i5, .int 5, .int 1]) (st := []) (ci := 8) cl_79.1 (wE_8 _ cl_79.2) rfl aw_183 aw_184 (x_X8_gets l D y ad i5 5 1 _ _ h) aw_182 aw_185 aw_5 (by decide +kernel) ⟨Nat.le_of_ble_eq_true rfl, Nat.le_of_ble_eq_true rfl⟩ rfl (Nat.le_of_ble_eq_true rfl) ⟨Nat.le_of_ble_eq_true rfl, Nat.le_of_ble_eq_true rfl⟩ dX8_first_79 ?_
        intro M6303 h
        refine j_aload_n X 0 rfl rfl dX8_first_82 ?_
        refine j_iload_n X 1 rfl rfl dX8_first_83 ?_
        refine j_callVV X (nn := 1) (As := [.int i1]) (st := []) (ci := 8) cl_79.1 (wE_8 _ cl_79.2) rfl aw_482 aw_483 (x_X8_passes l D y ad i1 _ _ h) aw_481 aw_484 aw_5 (by decide +kernel) ⟨Nat.le_of_ble_eq_true rfl, Nat.le_of_ble_eq_true rfl⟩ rfl (Nat.le_of_ble_eq_true rfl) ⟨Nat.le_of_ble_eq_true rfl, Nat.le_of_ble_eq_true rfl⟩ dX8_first_84 ?_
        intro M6304 h
        refine j_aload_n X 0 rfl rfl dX8_first_87 ?_
        refine j_get X cl_79.1 (wE_8 _ cl_79.2) rfl awF8 0 (by decide) aw_92 rfl (v := .ref (ad 80)) rfl dX8_first_88 ?_
        refine j_bipush X (v := 9) (by decide) dX8_first_91 ?_
        refine j_iald X cl_80.1 cl_80.2 (by unfold vp_in; decide) dX8_first_93 ?_
        refine j_eqi (v := M6304 80 9) rfl ?_
        refine j_istore X [(6, .int (M6304 80 9)), (0, .ref (ad 79)), (1, .int i1), (2, .int i2), (3, .int i3), (4, .int i4), (5, .int i5)] (by decide) rfl dX8_first_94 ?_
        refine j_aload_n X 1 rfl rfl dX8_first_96 ?_
        refine j_aload_n X 1 rfl rfl dX8_first_97 ?_
        refine j_get X cl_79.1 (wE_8 _ cl_79.2) rfl awF8 2 (by decide) aw_94 rfl (v := .ref (ad 82)) rfl dX8_first_98 ?_
        refine j_aload_n X 1 rfl rfl dX8_first_101 ?_
        refine j_get X cl_79.1 (wE_8 _ cl_79.2) rfl awF8 0 (by decide) aw_92 rfl (v := .ref (ad 80)) rfl dX8_first_102 ?_
        refine j_callVV X (nn := 2) (As := [.ref (ad 82), .ref (ad 80)]) (st := []) (ci := 8) cl_79.1 (wE_8 _ cl_79.2) rfl aw_553 aw_554 (x_X8_moveAll l D y ad 82 80 cl_82 cl_80 _ _ h) aw_552 aw_555 aw_5 (by decide +kernel) ⟨Nat.le_of_ble_eq_true rfl, Nat.le_of_ble_eq_true rfl⟩ rfl (Nat.le_of_ble_eq_true rfl) ⟨Nat.le_of_ble_eq_true rfl, Nat.le_of_ble_eq_true rfl⟩ dX8_first_105 ?_
        intro M6305 h
        refine j_iload X 0 rfl dX8_first_108 ?_
        refine j_iload X 5 rfl dX8_first_110 ?_
        refine j_icmp_ge X 120 (by decide) dX8_first_112 (fun q_6306 => ?_) (fun q_6306 => ?_)
        · replace h := h.1 q_6306
          refine j_iload_n X 4 rfl rfl dX8_first_120 ?_
          refine j_istore_n X [(3, .int i3), (6, .int (M6304 80 9)), (0, .ref (ad 79)), (1, .int i1), (2, .int i2), (4, .int i4), (5, .int i5)] rfl (by decide) rfl dX8_first_121 ?_
          refine j_iload X 1 rfl dX8_first_122 ?_
          refine j_iload X 5 rfl dX8_first_124 ?_
          refine j_icmp_ge X 134 (by decide) dX8_first_126 (fun q_6307 => ?_) (fun q_6307 => ?_)
          · replace h := h.1 q_6307
            refine j_iload X 5 rfl dX8_first_134 ?_
            refine j_istore X [(4, .int i4), (3, .int i3), (6, .int (M6304 80 9)), (0, .ref (ad 79)), (1, .int i1), (2, .int i2), (5, .int i5)] (by decide) rfl dX8_first_136 ?_
            refine j_iinc X (v := (i5 + 1)) 6 [(5, .int (i5 + 1)), (4, .int i4), (3, .int i3), (6, .int (M6304 80 9)), (0, .ref (ad 79)), (1, .int i1), (2, .int i2)] rfl rfl (by decide) rfl dX8_first_138 ?_
            refine j_goto X 63 (by decide) dX8_first_141 ?_
            refine j_lv (lv1 := [(0, .ref (ad 79)), (1, .int i1), (2, .int i2), (3, .int i3), (4, .int i4), (5, .int (i5 + 1))]) [4, 5, 6, 2, 1, 0] rfl ?_
            exact hB63 _ _ _ _ h
          · replace h := h.2 q_6307
            refine j_iload X 1 rfl dX8_first_129 ?_
            refine j_goto X 136 (by decide) dX8_first_131 ?_
            refine j_istore X [(4, .int (M6304 80 9)), (3, .int i3), (6, .int (M6304 80 9)), (0, .ref (ad 79)), (1, .int i1), (2, .int i2), (5, .int i5)] (by decide) rfl dX8_first_136 ?_
            refine j_iinc X (v := (i5 + 1)) 6 [(5, .int (i5 + 1)), (4, .int (M6304 80 9)), (3, .int i3), (6, .int (M6304 80 9)), (0, .ref (ad 79)), (1, .int i1), (2, .int i2)] rfl rfl (by decide) rfl dX8_first_138 ?_
            refine j_goto X 63 (by decide) dX8_first_141 ?_
            refine j_lv (lv1 := [(0, .ref (ad 79)), (1, .int i1), (2, .int i2), (3, .int i3), (4, .int (M6304 80 9)), (5, .int (i5 + 1))]) [4, 5, 6, 2, 1, 0] rfl ?_
            exact hB63 _ _ _ _ h
        · replace h := h.2 q_6306
          refine j_iload X 6 rfl dX8_first_115 ?_
          refine j_goto X 121 (by decide) dX8_first_117 ?_
          refine j_istore_n X [(3, .int i5), (6, .int (M6304 80 9)), (0, .ref (ad 79)), (1, .int i1), (2, .int i2), (4, .int i4), (5, .int i5)] rfl (by decide) rfl dX8_first_121 ?_
          refine j_iload X 1 rfl dX8_first_122 ?_
          refine j_iload X 5 rfl dX8_first_124 ?_
          refine j_icmp_ge X 134 (by decide) dX8_first_126 (fun q_6308 => ?_) (fun q_6308 => ?_)
          · replace h := h.1 q_6308
            refine j_iload X 5 rfl dX8_first_134 ?_
            refine j_istore X [(4, .int i4), (3, .int i5), (6, .int (M6304 80 9)), (0, .ref (ad 79)), (1, .int i1), (2, .int i2), (5, .int i5)] (by decide) rfl dX8_first_136 ?_
            refine j_iinc X (v := (i5 + 1)) 6 [(5, .int (i5 + 1)), (4, .int i4), (3, .int i5), (6, .int (M6304 80 9)), (0, .ref (ad 79)), (1, .int i1), (2, .int i2)] rfl rfl (by decide) rfl dX8_first_138 ?_
            refine j_goto X 63 (by decide) dX8_first_141 ?_
            refine j_lv (lv1 := [(0, .ref (ad 79)), (1, .int i1), (2, .int i2), (3, .int i5), (4, .int i4), (5, .int (i5 + 1))]) [4, 5, 6, 2, 1, 0] rfl ?_
            exact hB63 _ _ _ _ h
          · replace h := h.2 q_6308
            refine j_iload X 1 rfl dX8_first_129 ?_
            refine j_goto X 136 (by decide) dX8_first_131 ?_
            refine j_istore X [(4, .int (M6304 80 9)), (3, .int i5), (6, .int (M6304 80 9)), (0, .ref (ad 79)), (1, .int i1), (2, .int i2), (5, .int i5)] (by decide) rfl dX8_first_136 ?_
            refine j_iinc X (v := (i5 + 1)) 6 [(5, .int (i5 + 1)), (4, .int (M6304 80 9)), (3, .int i5), (6, .int (M6304 80 9)), (0, .ref (ad 79)), (1, .int i1), (2, .int i2)] rfl rfl (by decide) rfl dX8_first_138 ?_
            refine j_goto X 63 (by decide) dX8_first_141 ?_
            refine j_lv (lv1 := [(0, .ref (ad 79)), (1, .int i1), (2, .int i2), (3, .int i5), (4, .int (M6304 80 9)), (5, .int (i5 + 1))]) [4, 5, 6, 2, 1, 0] rfl ?_
            exact hB63 _ _ _ _ h
  delta wp_X8_first at h
  refine j_lv (lv1 := [(0, .ref (ad 79)), (1, .int i1), (2, .int i2)]) [0, 1, 2] rfl ?_
  refine j_iload_n X 1 rfl rfl dX8_first_0 ?_
  refine j_iconst X (v := 0) (by decide) dX8_first_1 ?_
  refine j_bipush X (v := 60) (by decide) dX8_first_2 ?_
  refine j_callSI X (nn := 3) (As := [.int i1, .int 0, .int 60]) (st := []) aw_134 (x_X8_in l D y ad i1 0 60 _ _ h) aw_133 aw_135 aw_5 (by decide +kernel) ⟨Nat.le_of_ble_eq_true rfl, Nat.le_of_ble_eq_true rfl⟩ rfl (Nat.le_of_ble_eq_true rfl) ⟨Nat.le_of_ble_eq_true rfl, Nat.le_of_ble_eq_true rfl⟩ dX8_first_4 ?_
  intro r1 M1 h
  refine j_if_eq X 19 (by decide) dX8_first_7 (fun q_2 => ?_) (fun q_2 => ?_)
  · replace h := h.1 q_2
    refine j_aload_n X 0 rfl rfl dX8_first_19 ?_
    refine j_ldc X (v := (-1000000001)) aw_132 dX8_first_20 ?_
    refine j_callVI X (nn := 1) (As := [.int (-1000000001)]) (st := []) (ci := 8) cl_79.1 (wE_8 _ cl_79.2) rfl aw_144 aw_145 (x_X8_errs l D y ad (-1000000001) _ _ h) aw_143 aw_146 aw_5 (by decide +kernel) ⟨Nat.le_of_ble_eq_true rfl, Nat.le_of_ble_eq_true rfl⟩ rfl (Nat.le_of_ble_eq_true rfl) ⟨Nat.le_of_ble_eq_true rfl, Nat.le_of_ble_eq_true rfl⟩ dX8_first_22 ?_
    intro r3 M3 h
    exact j_iret X hr hlocks dX8_first_25 h
  · replace h := h.2 q_2
    refine j_iload_n X 2 rfl rfl dX8_first_10 ?_
    refine j_iconst X (v := 0) (by decide) dX8_first_11 ?_
    refine j_iconst X (v := 1) (by decide) dX8_first_12 ?_
    refine j_callSI X (nn := 3) (As := [.int i2, .int 0, .int 1]) (st := []) aw_134 (x_X8_in l D y ad i2 0 1 _ _ h) aw_133 aw_135 aw_5 (by decide +kernel) ⟨Nat.le_of_ble_eq_true rfl, Nat.le_of_ble_eq_true rfl⟩ rfl (Nat.le_of_ble_eq_true rfl) ⟨Nat.le_of_ble_eq_true rfl, Nat.le_of_ble_eq_true rfl⟩ dX8_first_13 ?_
    intro r4 M4 h
    refine j_if_ne X 26 (by decide) dX8_first_16 (fun q_5 => ?_) (fun q_5 => ?_)
    · replace h := h.1 q_5
      refine j_aload_n X 0 rfl rfl dX8_first_26 ?_
      refine j_get X cl_79.1 (wE_8 _ cl_79.2) rfl awF8 0 (by decide) aw_92 rfl (v := .ref (ad 80)) rfl dX8_first_27 ?_
      refine j_iconst X (v := 2) (by decide) dX8_first_30 ?_
      refine j_iald X cl_80.1 cl_80.2 (by unfold vp_in; decide) dX8_first_31 ?_
      refine j_eqi (v := M4 80 2) rfl ?_
      refine j_if_ne X 42 (by decide) dX8_first_32 (fun q_6 => ?_) (fun q_6 => ?_)
      · replace h := h.1 q_6
        refine j_iconst X (v := 0) (by decide) dX8_first_42 ?_
        refine j_istore_n X [(3, .int 0), (0, .ref (ad 79)), (1, .int i1), (2, .int i2)] rfl (by decide) rfl dX8_first_43 ?_
        refine j_ldc X (v := 100000) aw_633 dX8_first_44 ?_
        refine j_istore X [(4, .int 100000), (3, .int 0), (0, .ref (ad 79)), (1, .int i1), (2, .int i2)] (by decide) rfl dX8_first_46 ?_
        refine j_aload_n X 2 rfl rfl dX8_first_48 ?_
        refine j_aload_n X 2 rfl rfl dX8_first_49 ?_
        refine j_get X cl_79.1 (wE_8 _ cl_79.2) rfl awF8 0 (by decide) aw_92 rfl (v := .ref (ad 80)) rfl dX8_first_50 ?_
        refine j_aload_n X 2 rfl rfl dX8_first_53 ?_
        refine j_get X cl_79.1 (wE_8 _ cl_79.2) rfl awF8 2 (by decide) aw_94 rfl (v := .ref (ad 82)) rfl dX8_first_54 ?_
        refine j_callVV X (nn := 2) (As := [.ref (ad 80), .ref (ad 82)]) (st := []) (ci := 8) cl_79.1 (wE_8 _ cl_79.2) rfl aw_553 aw_554 (x_X8_moveAll l D y ad 80 82 cl_80 cl_82 _ _ h) aw_552 aw_555 aw_5 (by decide +kernel) ⟨Nat.le_of_ble_eq_true rfl, Nat.le_of_ble_eq_true rfl⟩ rfl (Nat.le_of_ble_eq_true rfl) ⟨Nat.le_of_ble_eq_true rfl, Nat.le_of_ble_eq_true rfl⟩ dX8_first_57 ?_
        intro M7 h
        refine j_iconst X (v := 0) (by decide) dX8_first_60 ?_
        refine j_istore X [(5, .int 0), (4, .int 100000), (3, .int 0), (0, .ref (ad 79)), (1, .int i1), (2, .int i2)] (by decide) rfl dX8_first_61 ?_
        refine j_lv (lv1 := [(0, .ref (ad 79)), (1, .int i1), (2, .int i2), (3, .int 0), (4, .int 100000), (5, .int 0)]) [3, 4, 5, 2, 1, 0] rfl ?_
        obtain ⟨n63, h⟩ := h
        exact hL63 _ _   n63 _ _ _ _ h
      · replace h := h.2 q_6
        refine j_aload_n X 0 rfl rfl dX8_first_35 ?_
        refine j_ldc X (v := (-1000000002)) aw_565 dX8_first_36 ?_
        refine j_callVI X (nn := 1) (As := [.int (-1000000002)]) (st := []) (ci := 8) cl_79.1 (wE_8 _ cl_79.2) rfl aw_144 aw_145 (x_X8_errs l D y ad (-1000000002) _ _ h) aw_143 aw_146 aw_5 (by decide +kernel) ⟨Nat.le_of_ble_eq_true rfl, Nat.le_of_ble_eq_true rfl⟩ rfl (Nat.le_of_ble_eq_true rfl) ⟨Nat.le_of_ble_eq_true rfl, Nat.le_of_ble_eq_true rfl⟩ dX8_first_38 ?_
        intro r8 M8 h
        exact j_iret X hr hlocks dX8_first_41 h
    · replace h := h.2 q_5
      refine j_aload_n X 0 rfl rfl dX8_first_19 ?_
      refine j_ldc X (v := (-1000000001)) aw_132 dX8_first_20 ?_
      refine j_callVI X (nn := 1) (As := [.int (-1000000001)]) (st := []) (ci := 8) cl_79.1 (wE_8 _ cl_79.2) rfl aw_144 aw_145 (x_X8_errs l D y ad (-1000000001) _ _ h) aw_143 aw_146 aw_5 (by decide +kernel) ⟨Nat.le_of_ble_eq_true rfl, Nat.le_of_ble_eq_true rfl⟩ rfl (Nat.le_of_ble_eq_true rfl) ⟨Nat.le_of_ble_eq_true rfl, Nat.le_of_ble_eq_true rfl⟩ dX8_first_22 ?_
      intro r9 M9 h
      exact j_iret X hr hlocks dX8_first_25 h
theorem dX8_isSheet_0 : decode cX8_isSheet 0 = .ok (.iload_n 0, 1) := dk_26 (by decide +kernel)
theorem dX8_isSheet_1 : decode cX8_isSheet 1 = .ok (.iconst 0, 1) := dk_3 (by decide +kernel)
theorem dX8_isSheet_2 : decode cX8_isSheet 2 = .ok (.iconst 3, 1) := dk_6 (by decide +kernel)
theorem dX8_isSheet_3 : decode cX8_isSheet 3 = .ok (.invokestatic 47, 3) := dk_184 (by decide +kernel)
theorem dX8_isSheet_6 : decode cX8_isSheet 6 = .ok (.ireturn, 1) := dk_172 (by decide +kernel)
set_option maxRecDepth 100000 in
set_option maxHeartbeats 8000000 in
theorem x_X8_isSheet (l : Launch) (D : va_G) (y : wY) (ad : Nat → Nat) (i0 : Int32) (M : Mem) (K : Int32 → Mem → Prop) (h : wp_X8_isSheet i0 M K) : MI l D y ad yX8_isSheet (Cond.code yX8_isSheet cX8_isSheet 1 (some .boolean)) 1 M [.int i0] K := by
  refine MI_of (by decide) (Nat.le_of_ble_eq_true rfl) ?_
  intro p e s m args below meth c X hr hlocks
  delta wp_X8_isSheet at h
  refine j_lv (lv1 := [(0, .int i0)]) [0] rfl ?_
  refine j_iload_n X 0 rfl rfl dX8_isSheet_0 ?_
  refine j_iconst X (v := 0) (by decide) dX8_isSheet_1 ?_
  refine j_iconst X (v := 3) (by decide) dX8_isSheet_2 ?_
  refine j_callSI X (nn := 3) (As := [.int i0, .int 0, .int 3]) (st := []) aw_134 (x_X8_in l D y ad i0 0 3 _ _ h) aw_133 aw_135 aw_5 (by decide +kernel) ⟨Nat.le_of_ble_eq_true rfl, Nat.le_of_ble_eq_true rfl⟩ rfl (Nat.le_of_ble_eq_true rfl) ⟨Nat.le_of_ble_eq_true rfl, Nat.le_of_ble_eq_true rfl⟩ dX8_isSheet_3 ?_
  intro r1 M1 h
  obtain ⟨hb_2, h⟩ := h
  exact j_zret X hr hlocks hb_2 dX8_isSheet_6 h
