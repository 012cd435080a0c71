theorem dX8_dulls_0 : decode cX8_dulls 0 = .ok (.aload_n 0, 1) := dk_42 (by decide +kernel)
theorem dX8_dulls_1 : decode cX8_dulls 1 = .ok (.iload_n 1, 1) := dk_27 (by decide +kernel)
theorem dX8_dulls_2 : decode cX8_dulls 2 = .ok (.iconst 0, 1) := dk_3 (by decide +kernel)
theorem dX8_dulls_3 : decode cX8_dulls 3 = .ok (.invokevirtual 65, 3) := dk_182 (by decide +kernel)
theorem dX8_dulls_6 : decode cX8_dulls 6 = .ok (.tableswitch 45 1 6 #[38, 40, 43, 38, 40, 43], 38) := by decide +kernel
theorem dX8_dulls_44 : decode cX8_dulls 44 = .ok (.iconst 4, 1) := dk_7 (by decide +kernel)
theorem dX8_dulls_45 : decode cX8_dulls 45 = .ok (.ireturn, 1) := dk_172 (by decide +kernel)
theorem dX8_dulls_46 : decode cX8_dulls 46 = .ok (.bipush 6, 2) := dk_16 (by decide +kernel)
theorem dX8_dulls_48 : decode cX8_dulls 48 = .ok (.ireturn, 1) := dk_172 (by decide +kernel)
theorem dX8_dulls_49 : decode cX8_dulls 49 = .ok (.iconst 1, 1) := dk_4 (by decide +kernel)
theorem dX8_dulls_50 : decode cX8_dulls 50 = .ok (.ireturn, 1) := dk_172 (by decide +kernel)
theorem dX8_dulls_51 : decode cX8_dulls 51 = .ok (.iconst 3, 1) := dk_6 (by decide +kernel)
theorem dX8_dulls_52 : decode cX8_dulls 52 = .ok (.ireturn, 1) := dk_172 (by decide +kernel)
set_option maxRecDepth 100000 in
set_option maxHeartbeats 8000000 in
theorem x_X8_dulls (l : Launch) (D : va_G) (y : wY) (ad : Nat → Nat) (i1 : Int32) (M : Mem) (K : Int32 → Mem → Prop) (h : wp_X8_dulls i1 M K) : MI l D y ad yX8_dulls (Cond.code yX8_dulls cX8_dulls 2 (some .int)) 1 M [.ref (ad 79), .int i1] K := by
  refine MI_of (by decide) (Nat.le_of_ble_eq_true rfl) ?_
  intro p e s m args below meth c X hr hlocks
  delta wp_X8_dulls at h
  refine j_lv (lv1 := [(0, .ref (ad 79)), (1, .int i1)]) [0, 1] rfl ?_
  refine j_aload_n X 0 rfl rfl dX8_dulls_0 ?_
  refine j_iload_n X 1 rfl rfl dX8_dulls_1 ?_
  refine j_iconst X (v := 0) (by decide) dX8_dulls_2 ?_
  refine j_callVI X (nn := 2) (As := [.int i1, .int 0]) (st := []) (ci := 8) cl_79.1 (wE_8 _ cl_79.2) rfl aw_161 aw_162 (x_X8_its l D y ad i1 0 _ _ h) aw_160 aw_163 aw_5 (by decide +kernel) ⟨Nat.le_of_ble_eq_true rfl, Nat.le_of_ble_eq_true rfl⟩ rfl (Nat.le_of_ble_eq_true rfl) ⟨Nat.le_of_ble_eq_true rfl, Nat.le_of_ble_eq_true rfl⟩ dX8_dulls_3 ?_
  intro r1 M1 h
  by_cases w_2 : r1 = 1
  · replace h := h.1 w_2
    refine j_tsw_in X 44 1 w_2 (by decide) (by decide) (off := 38) rfl (by decide) dX8_dulls_6 ?_
    refine j_iconst X (v := 4) (by decide) dX8_dulls_44 ?_
    exact j_iret X hr hlocks dX8_dulls_45 h
  replace h := h.2 w_2
  by_cases w_3 : r1 = 2
  · replace h := h.1 w_3
    refine j_tsw_in X 46 2 w_3 (by decide) (by decide) (off := 40) rfl (by decide) dX8_dulls_6 ?_
    refine j_bipush X (v := 6) (by decide) dX8_dulls_46 ?_
    exact j_iret X hr hlocks dX8_dulls_48 h
  replace h := h.2 w_3
  by_cases w_4 : r1 = 3
  · replace h := h.1 w_4
    refine j_tsw_in X 49 3 w_4 (by decide) (by decide) (off := 43) rfl (by decide) dX8_dulls_6 ?_
    refine j_iconst X (v := 1) (by decide) dX8_dulls_49 ?_
    exact j_iret X hr hlocks dX8_dulls_50 h
  replace h := h.2 w_4
  by_cases w_5 : r1 = 4
  · replace h := h.1 w_5
    refine j_tsw_in X 44 4 w_5 (by decide) (by decide) (off := 38) rfl (by decide) dX8_dulls_6 ?_
    refine j_iconst X (v := 4) (by decide) dX8_dulls_44 ?_
    exact j_iret X hr hlocks dX8_dulls_45 h
  replace h := h.2 w_5
  by_cases w_6 : r1 = 5
  · replace h := h.1 w_6
    refine j_tsw_in X 46 5 w_6 (by decide) (by decide) (off := 40) rfl (by decide) dX8_dulls_6 ?_
    refine j_bipush X (v := 6) (by decide) dX8_dulls_46 ?_
    exact j_iret X hr hlocks dX8_dulls_48 h
  replace h := h.2 w_6
  by_cases w_7 : r1 = 6
  · replace h := h.1 w_7
    refine j_tsw_in X 49 6 w_7 (by decide) (by decide) (off := 43) rfl (by decide) dX8_dulls_6 ?_
    refine j_iconst X (v := 1) (by decide) dX8_dulls_49 ?_
    exact j_iret X hr hlocks dX8_dulls_50 h
  replace h := h.2 w_7
  have qw_2 := ti_ne (n := 1) (by decide) w_2
  have qw_3 := ti_ne (n := 2) (by decide) w_3
  have qw_4 := ti_ne (n := 3) (by decide) w_4
  have qw_5 := ti_ne (n := 4) (by decide) w_5
  have qw_6 := ti_ne (n := 5) (by decide) w_6
  have qw_7 := ti_ne (n := 6) (by decide) w_7
  refine j_tsw_out X 51 (by omega) (by decide) dX8_dulls_6 ?_
  refine j_iconst X (v := 3) (by decide) dX8_dulls_51 ?_
  exact j_iret X hr hlocks dX8_dulls_52 h
theorem dX8_ofQuarrel_0 : decode cX8_ofQuarrel 0 = .ok (.aload_n 0, 1) := dk_42 (by decide +kernel)
theorem dX8_ofQuarrel_1 : decode cX8_ofQuarrel 1 = .ok (.iload_n 1, 1) := dk_27 (by decide +kernel)
theorem dX8_ofQuarrel_2 : decode cX8_ofQuarrel 2 = .ok (.invokevirtual 73, 3) := dk_182 (by decide +kernel)
theorem dX8_ofQuarrel_5 : decode cX8_ofQuarrel 5 = .ok (.ifCond .eq 13, 3) := dk_153 (by decide +kernel)
theorem dX8_ofQuarrel_18 : decode cX8_ofQuarrel 18 = .ok (.aload_n 0, 1) := dk_42 (by decide +kernel)
theorem dX8_ofQuarrel_19 : decode cX8_ofQuarrel 19 = .ok (.ldc 60, 2) := dk_18 (by decide +kernel)
theorem dX8_ofQuarrel_21 : decode cX8_ofQuarrel 21 = .ok (.invokevirtual 61, 3) := dk_182 (by decide +kernel)
theorem dX8_ofQuarrel_24 : decode cX8_ofQuarrel 24 = .ok (.ireturn, 1) := dk_172 (by decide +kernel)
theorem dX8_ofQuarrel_8 : decode cX8_ofQuarrel 8 = .ok (.iload_n 2, 1) := dk_28 (by decide +kernel)
theorem dX8_ofQuarrel_9 : decode cX8_ofQuarrel 9 = .ok (.iconst 0, 1) := dk_3 (by decide +kernel)
theorem dX8_ofQuarrel_10 : decode cX8_ofQuarrel 10 = .ok (.bipush 9, 2) := dk_16 (by decide +kernel)
theorem dX8_ofQuarrel_12 : decode cX8_ofQuarrel 12 = .ok (.invokestatic 47, 3) := dk_184 (by decide +kernel)
theorem dX8_ofQuarrel_15 : decode cX8_ofQuarrel 15 = .ok (.ifCond .ne 10, 3) := dk_154 (by decide +kernel)
theorem dX8_ofQuarrel_25 : decode cX8_ofQuarrel 25 = .ok (.iload_n 2, 1) := dk_28 (by decide +kernel)
theorem dX8_ofQuarrel_26 : decode cX8_ofQuarrel 26 = .ok (.tableswitch 44 7 9 #[26, 32, 38], 26) := by decide +kernel
theorem dX8_ofQuarrel_52 : decode cX8_ofQuarrel 52 = .ok (.aload_n 0, 1) := dk_42 (by decide +kernel)
theorem dX8_ofQuarrel_53 : decode cX8_ofQuarrel 53 = .ok (.iload_n 1, 1) := dk_27 (by decide +kernel)
theorem dX8_ofQuarrel_54 : decode cX8_ofQuarrel 54 = .ok (.invokevirtual 76, 3) := dk_182 (by decide +kernel)
theorem dX8_ofQuarrel_57 : decode cX8_ofQuarrel 57 = .ok (.ireturn, 1) := dk_172 (by decide +kernel)
theorem dX8_ofQuarrel_58 : decode cX8_ofQuarrel 58 = .ok (.aload_n 0, 1) := dk_42 (by decide +kernel)
theorem dX8_ofQuarrel_59 : decode cX8_ofQuarrel 59 = .ok (.iload_n 1, 1) := dk_27 (by decide +kernel)
theorem dX8_ofQuarrel_60 : decode cX8_ofQuarrel 60 = .ok (.invokevirtual 79, 3) := dk_182 (by decide +kernel)
theorem dX8_ofQuarrel_63 : decode cX8_ofQuarrel 63 = .ok (.ireturn, 1) := dk_172 (by decide +kernel)
theorem dX8_ofQuarrel_64 : decode cX8_ofQuarrel 64 = .ok (.aload_n 0, 1) := dk_42 (by decide +kernel)
theorem dX8_ofQuarrel_65 : decode cX8_ofQuarrel 65 = .ok (.iload_n 1, 1) := dk_27 (by decide +kernel)
theorem dX8_ofQuarrel_66 : decode cX8_ofQuarrel 66 = .ok (.invokevirtual 82, 3) := dk_182 (by decide +kernel)
theorem dX8_ofQuarrel_69 : decode cX8_ofQuarrel 69 = .ok (.ireturn, 1) := dk_172 (by decide +kernel)
theorem dX8_ofQuarrel_70 : decode cX8_ofQuarrel 70 = .ok (.aload_n 0, 1) := dk_42 (by decide +kernel)
theorem dX8_ofQuarrel_71 : decode cX8_ofQuarrel 71 = .ok (.iload_n 1, 1) := dk_27 (by decide +kernel)
theorem dX8_ofQuarrel_72 : decode cX8_ofQuarrel 72 = .ok (.iload_n 2, 1) := dk_28 (by decide +kernel)
theorem dX8_ofQuarrel_73 : decode cX8_ofQuarrel 73 = .ok (.invokevirtual 65, 3) := dk_182 (by decide +kernel)
theorem dX8_ofQuarrel_76 : decode cX8_ofQuarrel 76 = .ok (.ireturn, 1) := dk_172 (by decide +kernel)
set_option maxRecDepth 100000 in
set_option maxHeartbeats 8000000 in
theorem x_X8_ofQuarrel (l : Launch) (D : va_G) (y : wY) (ad : Nat → Nat) (i1 : Int32) (i2 : Int32) (M : Mem) (K : Int32 → Mem → Prop) (h : wp_X8_ofQuarrel i1 i2 M K) : MI l D y ad yX8_ofQuarrel (Cond.code yX8_ofQuarrel cX8_ofQuarrel 3 (some .int)) 4 M [.ref (ad 79), .int i1, .int i2] K := by
  refine MI_of (by decide) (Nat.le_of_ble_eq_true rfl) ?_
  intro p e s m args below meth c X hr hlocks
  delta wp_X8_ofQuarrel at h
  refine j_lv (lv1 := [(0, .ref (ad 79)), (1, .int i1), (2, .int i2)]) [0, 1, 2] rfl ?_
  refine j_aload_n X 0 rfl rfl dX8_ofQuarrel_0 ?_
  refine j_iload_n X 1 rfl rfl dX8_ofQuarrel_1 ?_
  refine j_callVI X (nn := 1) (As := [.int i1]) (st := []) (ci := 8) cl_79.1 (wE_8 _ cl_79.2) rfl aw_231 aw_232 (x_X8_isQuarrel l D y ad i1 _ _ h) aw_230 aw_233 aw_5 (by decide +kernel) ⟨Nat.le_of_ble_eq_true rfl, Nat.le_of_ble_eq_true rfl⟩ rfl (Nat.le_of_ble_eq_true rfl) ⟨Nat.le_of_ble_eq_true rfl, Nat.le_of_ble_eq_true rfl⟩ dX8_ofQuarrel_2 ?_
  intro r1 M1 h
  refine j_if_eq X 18 (by decide) dX8_ofQuarrel_5 (fun q_2 => ?_) (fun q_2 => ?_)
  · replace h := h.1 q_2
    refine j_aload_n X 0 rfl rfl dX8_ofQuarrel_18 ?_
    refine j_ldc X (v := (-1000000001)) aw_132 dX8_ofQuarrel_19 ?_
    refine j_callVI X (nn := 1) (As := [.int (-1000000001)]) (st := []) (ci := 8) cl_79.1 (wE_8 _ cl_79.2) rfl aw_144 aw_145 (x_X8_errs l D y ad (-1000000001) _ _ h) aw_143 aw_146 aw_5 (by decide +kernel) ⟨Nat.le_of_ble_eq_true rfl, Nat.le_of_ble_eq_true rfl⟩ rfl (Nat.le_of_ble_eq_true rfl) ⟨Nat.le_of_ble_eq_true rfl, Nat.le_of_ble_eq_true rfl⟩ dX8_ofQuarrel_21 ?_
    intro r3 M3 h
    exact j_iret X hr hlocks dX8_ofQuarrel_24 h
  · replace h := h.2 q_2
    refine j_iload_n X 2 rfl rfl dX8_ofQuarrel_8 ?_
    refine j_iconst X (v := 0) (by decide) dX8_ofQuarrel_9 ?_
    refine j_bipush X (v := 9) (by decide) dX8_ofQuarrel_10 ?_
    refine j_callSI X (nn := 3) (As := [.int i2, .int 0, .int 9]) (st := []) aw_134 (x_X8_in l D y ad i2 0 9 _ _ h) aw_133 aw_135 aw_5 (by decide +kernel) ⟨Nat.le_of_ble_eq_true rfl, Nat.le_of_ble_eq_true rfl⟩ rfl (Nat.le_of_ble_eq_true rfl) ⟨Nat.le_of_ble_eq_true rfl, Nat.le_of_ble_eq_true rfl⟩ dX8_ofQuarrel_12 ?_
    intro r4 M4 h
    refine j_if_ne X 25 (by decide) dX8_ofQuarrel_15 (fun q_5 => ?_) (fun q_5 => ?_)
    · replace h := h.1 q_5
      refine j_iload_n X 2 rfl rfl dX8_ofQuarrel_25 ?_
      by_cases w_6 : i2 = 7
      · replace h := h.1 w_6
        refine j_tsw_in X 52 7 w_6 (by decide) (by decide) (off := 26) rfl (by decide) dX8_ofQuarrel_26 ?_
        refine j_aload_n X 0 rfl rfl dX8_ofQuarrel_52 ?_
        refine j_iload_n X 1 rfl rfl dX8_ofQuarrel_53 ?_
        refine j_callVI X (nn := 1) (As := [.int i1]) (st := []) (ci := 8) cl_79.1 (wE_8 _ cl_79.2) rfl aw_235 aw_236 (x_X8_gains l D y ad i1 _ _ h) aw_234 aw_237 aw_5 (by decide +kernel) ⟨Nat.le_of_ble_eq_true rfl, Nat.le_of_ble_eq_true rfl⟩ rfl (Nat.le_of_ble_eq_true rfl) ⟨Nat.le_of_ble_eq_true rfl, Nat.le_of_ble_eq_true rfl⟩ dX8_ofQuarrel_54 ?_
        intro r7 M7 h
        exact j_iret X hr hlocks dX8_ofQuarrel_57 h
      replace h := h.2 w_6
      by_cases w_8 : i2 = 8
      · replace h := h.1 w_8
        refine j_tsw_in X 58 8 w_8 (by decide) (by decide) (off := 32) rfl (by decide) dX8_ofQuarrel_26 ?_
        refine j_aload_n X 0 rfl rfl dX8_ofQuarrel_58 ?_
        refine j_iload_n X 1 rfl rfl dX8_ofQuarrel_59 ?_
        refine j_callVI X (nn := 1) (As := [.int i1]) (st := []) (ci := 8) cl_79.1 (wE_8 _ cl_79.2) rfl aw_253 aw_254 (x_X8_needs l D y ad i1 _ _ h) aw_252 aw_255 aw_5 (by decide +kernel) ⟨Nat.le_of_ble_eq_true rfl, Nat.le_of_ble_eq_true rfl⟩ rfl (Nat.le_of_ble_eq_true rfl) ⟨Nat.le_of_ble_eq_true rfl, Nat.le_of_ble_eq_true rfl⟩ dX8_ofQuarrel_60 ?_
        intro r9 M9 h
        exact j_iret X hr hlocks dX8_ofQuarrel_63 h
      replace h := h.2 w_8
      by_cases w_10 : i2 = 9
      · replace h := h.1 w_10
        refine j_tsw_in X 64 9 w_10 (by decide) (by decide) (off := 38) rfl (by decide) dX8_ofQuarrel_26 ?_
        refine j_aload_n X 0 rfl rfl dX8_ofQuarrel_64 ?_
        refine j_iload_n X 1 rfl rfl dX8_ofQuarrel_65 ?_
        refine j_callVI X (nn := 1) (As := [.int i1]) (st := []) (ci := 8) cl_79.1 (wE_8 _ cl_79.2) rfl aw_257 aw_258 (x_X8_dulls l D y ad i1 _ _ h) aw_256 aw_259 aw_5 (by decide +kernel) ⟨Nat.le_of_ble_eq_true rfl, Nat.le_of_ble_eq_true rfl⟩ rfl (Nat.le_of_ble_eq_true rfl) ⟨Nat.le_of_ble_eq_true rfl, Nat.le_of_ble_eq_true rfl⟩ dX8_ofQuarrel_66 ?_
        intro r11 M11 h
        exact j_iret X hr hlocks dX8_ofQuarrel_69 h
      replace h := h.2 w_10
      have qw_6 := ti_ne (n := 7) (by decide) w_6
      have qw_8 := ti_ne (n := 8) (by decide) w_8
      have qw_10 := ti_ne (n := 9) (by decide) w_10
      refine j_tsw_out X 70 (by omega) (by decide) dX8_ofQuarrel_26 ?_
      refine j_aload_n X 0 rfl rfl dX8_ofQuarrel_70 ?_
      refine j_iload_n X 1 rfl rfl dX8_ofQuarrel_71 ?_
      refine j_iload_n X 2 rfl rfl dX8_ofQuarrel_72 ?_
      refine j_callVI X (nn := 2) (As := [.int i1, .int i2]) (st := []) (ci := 8) cl_79.1 (wE_8 _ cl_79.2) rfl aw_161 aw_162 (x_X8_its l D y ad i1 i2 _ _ h) aw_160 aw_163 aw_5 (by decide +kernel) ⟨Nat.le_of_ble_eq_true rfl, Nat.le_of_ble_eq_true rfl⟩ rfl (Nat.le_of_ble_eq_true rfl) ⟨Nat.le_of_ble_eq_true rfl, Nat.le_of_ble_eq_true rfl⟩ dX8_ofQuarrel_73 ?_
      intro r12 M12 h
      exact j_iret X hr hlocks dX8_ofQuarrel_76 h
    · replace h := h.2 q_5
      refine j_aload_n X 0 rfl rfl dX8_ofQuarrel_18 ?_
      refine j_ldc X (v := (-1000000001)) aw_132 dX8_ofQuarrel_19 ?_
      refine j_callVI X (nn := 1) (As := [.int (-1000000001)]) (st := []) (ci := 8) cl_79.1 (wE_8 _ cl_79.2) rfl aw_144 aw_145 (x_X8_errs l D y ad (-1000000001) _ _ h) aw_143 aw_146 aw_5 (by decide +kernel) ⟨Nat.le_of_ble_eq_true rfl, Nat.le_of_ble_eq_true rfl⟩ rfl (Nat.le_of_ble_eq_true rfl) ⟨Nat.le_of_ble_eq_true rfl, Nat.le_of_ble_eq_true rfl⟩ dX8_ofQuarrel_21 ?_
      intro r13 M13 h
      exact j_iret X hr hlocks dX8_ofQuarrel_24 h
theorem dX8_change_61 : decode cX8_change 61 = .ok (.istore 4, 2) := dk_54 (by decide +kernel)
theorem dX8_change_63 : decode cX8_change 63 = .ok (.aload_n 0, 1) := dk_42 (by decide +kernel)
theorem dX8_change_64 : decode cX8_change 64 = .ok (.iload_n 1, 1) := dk_27 (by decide +kernel)
theorem dX8_change_65 : decode cX8_change 65 = .ok (.invokevirtual 73, 3) := dk_182 (by decide +kernel)
theorem dX8_change_68 : decode cX8_change 68 = .ok (.ifCond .eq 8, 3) := dk_153 (by decide +kernel)
theorem dX8_change_76 : decode cX8_change 76 = .ok (.aload_n 0, 1) := dk_42 (by decide +kernel)
theorem dX8_change_77 : decode cX8_change 77 = .ok (.ldc 60, 2) := dk_18 (by decide +kernel)
theorem dX8_change_79 : decode cX8_change 79 = .ok (.invokevirtual 61, 3) := dk_182 (by decide +kernel)
theorem dX8_change_82 : decode cX8_change 82 = .ok (.ireturn, 1) := dk_172 (by decide +kernel)
theorem dX8_change_71 : decode cX8_change 71 = .ok (.iload 4, 2) := dk_21 (by decide +kernel)
theorem dX8_change_73 : decode cX8_change 73 = .ok (.ifCond .ne 10, 3) := dk_154 (by decide +kernel)
theorem dX8_change_83 : decode cX8_change 83 = .ok (.aload_n 0, 1) := dk_42 (by decide +kernel)
theorem dX8_change_84 : decode cX8_change 84 = .ok (.bipush 11, 2) := dk_16 (by decide +kernel)
theorem dX8_change_86 : decode cX8_change 86 = .ok (.bipush 7, 2) := dk_16 (by decide +kernel)
theorem dX8_change_88 : decode cX8_change 88 = .ok (.iload_n 1, 1) := dk_27 (by decide +kernel)
theorem dX8_change_89 : decode cX8_change 89 = .ok (.imul, 1) := dk_104 (by decide +kernel)
theorem dX8_change_90 : decode cX8_change 90 = .ok (.iadd, 1) := dk_96 (by decide +kernel)
theorem dX8_change_91 : decode cX8_change 91 = .ok (.iload_n 2, 1) := dk_28 (by decide +kernel)
theorem dX8_change_92 : decode cX8_change 92 = .ok (.iconst 2, 1) := dk_5 (by decide +kernel)
theorem dX8_change_93 : decode cX8_change 93 = .ok (.if_icmp .ge 9, 3) := dk_162 (by decide +kernel)
theorem dX8_change_102 : decode cX8_change 102 = .ok (.iconst 5, 1) := dk_8 (by decide +kernel)
theorem dX8_change_103 : decode cX8_change 103 = .ok (.iload_n 2, 1) := dk_28 (by decide +kernel)
theorem dX8_change_104 : decode cX8_change 104 = .ok (.iadd, 1) := dk_96 (by decide +kernel)
theorem dX8_change_105 : decode cX8_change 105 = .ok (.iconst 2, 1) := dk_5 (by decide +kernel)
theorem dX8_change_106 : decode cX8_change 106 = .ok (.isub, 1) := dk_100 (by decide +kernel)
theorem dX8_change_107 : decode cX8_change 107 = .ok (.iadd, 1) := dk_96 (by decide +kernel)
theorem dX8_change_108 : decode cX8_change 108 = .ok (.iload_n 3, 1) := dk_29 (by decide +kernel)
theorem dX8_change_109 : decode cX8_change 109 = .ok (.invokevirtual 56, 3) := dk_182 (by decide +kernel)
theorem dX8_change_112 : decode cX8_change 112 = .ok (.ireturn, 1) := dk_172 (by decide +kernel)
theorem dX8_change_96 : decode cX8_change 96 = .ok (.iconst 2, 1) := dk_5 (by decide +kernel)
theorem dX8_change_97 : decode cX8_change 97 = .ok (.iload_n 2, 1) := dk_28 (by decide +kernel)
theorem dX8_change_98 : decode cX8_change 98 = .ok (.iadd, 1) := dk_96 (by decide +kernel)
theorem dX8_change_99 : decode cX8_change 99 = .ok (.goto 8, 3) := dk_167 (by decide +kernel)
theorem dX8_change_0 : decode cX8_change 0 = .ok (.iload_n 2, 1) := dk_28 (by decide +kernel)
theorem dX8_change_1 : decode cX8_change 1 = .ok (.ifCond .ne 10, 3) := dk_154 (by decide +kernel)
theorem dX8_change_11 : decode cX8_change 11 = .ok (.iload_n 2, 1) := dk_28 (by decide +kernel)
theorem dX8_change_12 : decode cX8_change 12 = .ok (.iconst 1, 1) := dk_4 (by decide +kernel)
theorem dX8_change_13 : decode cX8_change 13 = .ok (.if_icmp .ne 13, 3) := dk_160 (by decide +kernel)
theorem dX8_change_26 : decode cX8_change 26 = .ok (.iload_n 2, 1) := dk_28 (by decide +kernel)
theorem dX8_change_27 : decode cX8_change 27 = .ok (.iconst 2, 1) := dk_5 (by decide +kernel)
theorem dX8_change_28 : decode cX8_change 28 = .ok (.if_icmp .ne 12, 3) := dk_160 (by decide +kernel)
theorem dX8_change_40 : decode cX8_change 40 = .ok (.iload_n 2, 1) := dk_28 (by decide +kernel)
theorem dX8_change_41 : decode cX8_change 41 = .ok (.iconst 3, 1) := dk_6 (by decide +kernel)
theorem dX8_change_42 : decode cX8_change 42 = .ok (.if_icmp .ne 18, 3) := dk_160 (by decide +kernel)
theorem dX8_change_60 : decode cX8_change 60 = .ok (.iconst 0, 1) := dk_3 (by decide +kernel)
theorem dX8_change_45 : decode cX8_change 45 = .ok (.iload_n 3, 1) := dk_29 (by decide +kernel)
theorem dX8_change_46 : decode cX8_change 46 = .ok (.iconst 0, 1) := dk_3 (by decide +kernel)
theorem dX8_change_47 : decode cX8_change 47 = .ok (.sipush 999, 3) := dk_17 (by decide +kernel)
theorem dX8_change_50 : decode cX8_change 50 = .ok (.invokestatic 47, 3) := dk_184 (by decide +kernel)
theorem dX8_change_53 : decode cX8_change 53 = .ok (.ifCond .eq 7, 3) := dk_153 (by decide +kernel)
theorem dX8_change_56 : decode cX8_change 56 = .ok (.iconst 1, 1) := dk_4 (by decide +kernel)
theorem dX8_change_57 : decode cX8_change 57 = .ok (.goto 4, 3) := dk_167 (by decide +kernel)
theorem dX8_change_31 : decode cX8_change 31 = .ok (.iload_n 3, 1) := dk_29 (by decide +kernel)
theorem dX8_change_32 : decode cX8_change 32 = .ok (.iconst 0, 1) := dk_3 (by decide +kernel)
theorem dX8_change_33 : decode cX8_change 33 = .ok (.iconst 1, 1) := dk_4 (by decide +kernel)
theorem dX8_change_34 : decode cX8_change 34 = .ok (.invokestatic 47, 3) := dk_184 (by decide +kernel)
theorem dX8_change_37 : decode cX8_change 37 = .ok (.goto 24, 3) := dk_167 (by decide +kernel)
theorem dX8_change_16 : decode cX8_change 16 = .ok (.iload_n 3, 1) := dk_29 (by decide +kernel)
theorem dX8_change_17 : decode cX8_change 17 = .ok (.iconst 0, 1) := dk_3 (by decide +kernel)
theorem dX8_change_18 : decode cX8_change 18 = .ok (.bipush 99, 2) := dk_16 (by decide +kernel)
theorem dX8_change_20 : decode cX8_change 20 = .ok (.invokestatic 47, 3) := dk_184 (by decide +kernel)
theorem dX8_change_23 : decode cX8_change 23 = .ok (.goto 38, 3) := dk_167 (by decide +kernel)
theorem dX8_change_4 : decode cX8_change 4 = .ok (.iload_n 3, 1) := dk_29 (by decide +kernel)
theorem dX8_change_5 : decode cX8_change 5 = .ok (.invokestatic 51, 3) := dk_184 (by decide +kernel)
theorem dX8_change_8 : decode cX8_change 8 = .ok (.goto 53, 3) := dk_167 (by decide +kernel)
set_option maxRecDepth 100000 in
set_option maxHeartbeats 8000000 in
theorem x_X8_change (l : Launch) (D : va_G) (y : wY) (ad : Nat → Nat) (i1 : Int32) (i2 : Int32) (i3 : Int32) (M : Mem) (K : Int32 → Mem → Prop) (h : wp_X8_change i1 i2 i3 M K) : MI l D y ad yX8_change (Cond.code yX8_change cX8_change 5 (some .int)) 2 M [.ref (ad 79), .int i1, .int i2, .int i3] K := by
  refine MI_of (by decide) (Nat.le_of_ble_eq_true rfl) ?_
  intro p e s m args below meth c X hr hlocks
  have hb61 : ∀ (i1 : Int32) (i2 : Int32) (i3 : Int32) (t0 : Int32) (Mb : Mem), wp_X8_change_b61 K i1 i2 i3 t0 Mb → J p l e (rmN 2) s m args below meth c 0 0 (QI K D y ad M s args below) D y ad (va_A (PL y ad M) s.heap.size) 5 Mb 61 [(0, .ref (ad 79)), (1, .int i1), (2, .int i2), (3, .int i3)] [.int t0] := by
    intro i1 i2 i3 t0 Mb h
    delta wp_X8_change_b61 at h
    refine j_istore X [(4, .int t0), (0, .ref (ad 79)), (1, .int i1), (2, .int i2), (3, .int i3)] (by decide) rfl dX8_change_61 ?_
    refine j_aload_n X 1 rfl rfl dX8_change_63 ?_
    refine j_iload_n X 2 rfl rfl dX8_change_64 ?_
    refine j_callVI X (nn := 1) (As := [.int i1]) (st := []) (ci := 8) cl_79.1 (wE_8 _ cl_79.2) rfl aw_231 aw_232 (x_X8_isQuarrel l D y ad i1 _ _ h) aw_230 aw_233 aw_5 (by decide +kernel) ⟨Nat.le_of_ble_eq_true rfl, Nat.le_of_ble_eq_true rfl⟩ rfl (Nat.le_of_ble_eq_true rfl) ⟨Nat.le_of_ble_eq_true rfl, Nat.le_of_ble_eq_true rfl⟩ dX8_change_65 ?_
    intro r6101 M6101 h
    refine j_if_eq X 76 (by decide) dX8_change_68 (fun q_6102 => ?_) (fun q_6102 => ?_)
    · replace h := h.1 q_6102
      refine j_aload_n X 1 rfl rfl dX8_change_76 ?_
      refine j_ldc X (v := (-1000000001)) aw_132 dX8_change_77 ?_
      refine j_callVI X (nn := 1) (As := [.int (-1000000001)]) (st := []) (ci := 8) cl_79.1 (wE_8 _ cl_79.2) rfl aw_144 aw_145 (x_X8_errs l D y ad (-1000000001) _ _ h) aw_143 aw_146 aw_5 (by decide +kernel) ⟨Nat.le_of_ble_eq_true rfl, Nat.le_of_ble_eq_true rfl⟩ rfl (Nat.le_of_ble_eq_true rfl) ⟨Nat.le_of_ble_eq_true rfl, Nat.le_of_ble_eq_true rfl⟩ dX8_change_79 ?_
      intro r6103 M6103 h
      exact j_iret X hr hlocks dX8_change_82 h
    · replace h := h.2 q_6102
      refine j_iload X 0 rfl dX8_change_71 ?_
      refine j_if_ne X 83 (by decide) dX8_change_73 (fun q_6104 => ?_) (fun q_6104 => ?_)
      · replace h := h.1 q_6104
        refine j_aload_n X 1 rfl rfl dX8_change_83 ?_
        refine j_bipush X (v := 11) (by decide) dX8_change_84 ?_
        refine j_bipush X (v := 7) (by decide) dX8_change_86 ?_
        refine j_iload_n X 2 rfl rfl dX8_change_88 ?_
        refine j_imul X dX8_change_89 ?_
        refine j_iadd X dX8_change_90 ?_
        refine j_iload_n X 3 rfl rfl dX8_change_91 ?_
        refine j_iconst X (v := 2) (by decide) dX8_change_92 ?_
        refine j_icmp_ge X 102 (by decide) dX8_change_93 (fun q_6105 => ?_) (fun q_6105 => ?_)
        · replace h := h.1 q_6105
          refine j_iconst X (v := 5) (by decide) dX8_change_102 ?_
          refine j_iload_n X 3 rfl rfl dX8_change_103 ?_
          refine j_iadd X dX8_change_104 ?_
          refine j_iconst X (v := 2) (by decide) dX8_change_105 ?_
          refine j_isub X dX8_change_106 ?_
          refine j_iadd X dX8_change_107 ?_
          refine j_iload_n X 4 rfl rfl dX8_change_108 ?_
          refine j_callVI X (nn := 2) (As := [.int ((11 + (7 * i1)) + ((5 + i2) - 2)), .int i3]) (st := []) (ci := 8) cl_79.1 (wE_8 _ cl_79.2) rfl aw_140 aw_141 (x_X8_becomes l D y ad ((11 + (7 * i1)) + ((5 + i2) - 2)) i3 _ _ h) aw_139 aw_142 aw_5 (by decide +kernel) ⟨Nat.le_of_ble_eq_true rfl, Nat.le_of_ble_eq_true rfl⟩ rfl (Nat.le_of_ble_eq_true rfl) ⟨Nat.le_of_ble_eq_true rfl, Nat.le_of_ble_eq_true rfl⟩ dX8_change_109 ?_
          intro r6106 M6106 h
          exact j_iret X hr hlocks dX8_change_112 h
        · replace h := h.2 q_6105
          refine j_iconst X (v := 2) (by decide) dX8_change_96 ?_
          refine j_iload_n X 3 rfl rfl dX8_change_97 ?_
          refine j_iadd X dX8_change_98 ?_
          refine j_goto X 107 (by decide) dX8_change_99 ?_
          refine j_iadd X dX8_change_107 ?_
          refine j_iload_n X 4 rfl rfl dX8_change_108 ?_
          refine j_callVI X (nn := 2) (As := [.int ((11 + (7 * i1)) + (2 + i2)), .int i3]) (st := []) (ci := 8) cl_79.1 (wE_8 _ cl_79.2) rfl aw_140 aw_141 (x_X8_becomes l D y ad ((11 + (7 * i1)) + (2 + i2)) i3 _ _ h) aw_139 aw_142 aw_5 (by decide +kernel) ⟨Nat.le_of_ble_eq_true rfl, Nat.le_of_ble_eq_true rfl⟩ rfl (Nat.le_of_ble_eq_true rfl) ⟨Nat.le_of_ble_eq_true rfl, Nat.le_of_ble_eq_true rfl⟩ dX8_change_109 ?_
          intro r6107 M6107 h
          exact j_iret X hr hlocks dX8_change_112 h
      · replace h := h.2 q_6104
        refine j_aload_n X 1 rfl rfl dX8_change_76 ?_
        refine j_ldc X (v := (-1000000001)) aw_132 dX8_change_77 ?_
        refine j_callVI X (nn := 1) (As := [.int (-1000000001)]) (st := []) (ci := 8) cl_79.1 (wE_8 _ cl_79.2) rfl aw_144 aw_145 (x_X8_errs l D y ad (-1000000001) _ _ h) aw_143 aw_146 aw_5 (by decide +kernel) ⟨Nat.le_of_ble_eq_true rfl, Nat.le_of_ble_eq_true rfl⟩ rfl (Nat.le_of_ble_eq_true rfl) ⟨Nat.le_of_ble_eq_true rfl, Nat.le_of_ble_eq_true rfl⟩ dX8_change_79 ?_
        intro r6108 M6108 h
        exact j_iret X hr hlocks dX8_change_82 h
  delta wp_X8_change at h
  refine j_lv (lv1 := [(0, .ref (ad 79)), (1, .int i1), (2, .int i2), (3, .int i3)]) [0, 1, 2, 3] rfl ?_
  refine j_iload_n X 2 rfl rfl dX8_change_0 ?_
  refine j_if_ne X 11 (by decide) dX8_change_1 (fun q_1 => ?_) (fun q_1 => ?_)
  · replace h := h.1 q_1
    refine j_iload_n X 2 rfl rfl dX8_change_11 ?_
    refine j_iconst X (v := 1) (by decide) dX8_change_12 ?_
    refine j_icmp_ne X 26 (by decide) dX8_change_13 (fun q_2 => ?_) (fun q_2 => ?_)
    · replace h := h.1 q_2
      refine j_iload_n X 2 rfl rfl dX8_change_26 ?_
      refine j_iconst X (v := 2) (by decide) dX8_change_27 ?_
      refine j_icmp_ne X 40 (by decide) dX8_change_28 (fun q_3 => ?_) (fun q_3 => ?_)
      · replace h := h.1 q_3
        refine j_iload_n X 2 rfl rfl dX8_change_40 ?_
        refine j_iconst X (v := 3) (by decide) dX8_change_41 ?_
        refine j_icmp_ne X 60 (by decide) dX8_change_42 (fun q_4 => ?_) (fun q_4 => ?_)
        · replace h := h.1 q_4
          refine j_iconst X (v := 0) (by decide) dX8_change_60 ?_
          refine j_lv (lv1 := [(0, .ref (ad 79)), (1, .int i1), (2, .int i2), (3, .int i3)]) [0, 1, 2, 3] rfl ?_
          exact hb61 _ _ _ _  _ h
        · replace h := h.2 q_4
          refine j_iload_n X 3 rfl rfl dX8_change_45 ?_
          refine j_iconst X (v := 0) (by decide) dX8_change_46 ?_
          refine j_sipush X (v := 999) (by decide) dX8_change_47 ?_
          refine j_callSI X (nn := 3) (As := [.int i3, .int 0, .int 999]) (st := []) aw_134 (x_X8_in l D y ad i3 0 999 _ _ h) aw_133 aw_135 aw_5 (by decide +kernel) ⟨Nat.le_of_ble_eq_true rfl, Nat.le_of_ble_eq_true rfl⟩ rfl (Nat.le_of_ble_eq_true rfl) ⟨Nat.le_of_ble_eq_true rfl, Nat.le_of_ble_eq_true rfl⟩ dX8_change_50 ?_
          intro r5 M5 h
          refine j_if_eq X 60 (by decide) dX8_change_53 (fun q_6 => ?_) (fun q_6 => ?_)
          · replace h := h.1 q_6
            refine j_iconst X (v := 0) (by decide) dX8_change_60 ?_
            refine j_lv (lv1 := [(0, .ref (ad 79)), (1, .int i1), (2, .int i2), (3, .int i3)]) [0, 1, 2, 3] rfl ?_
            exact hb61 _ _ _ _  _ h
          · replace h := h.2 q_6
            refine j_iconst X (v := 1) (by decide) dX8_change_56 ?_
            refine j_goto X 61 (by decide) dX8_change_57 ?_
            refine j_lv (lv1 := [(0, .ref (ad 79)), (1, .int i1), (2, .int i2), (3, .int i3)]) [0, 1, 2, 3] rfl ?_
            exact hb61 _ _ _ _  _ h
      · replace h := h.2 q_3
        refine j_iload_n X 3 rfl rfl dX8_change_31 ?_
        refine j_iconst X (v := 0) (by decide) dX8_change_32 ?_
        refine j_iconst X (v := 1) (by decide) dX8_change_33 ?_
        refine j_callSI X (nn := 3) (As := [.int i3, .int 0, .int 1]) (st := []) aw_134 (x_X8_in l D y ad i3 0 1 _ _ h) aw_133 aw_135 aw_5 (by decide +kernel) ⟨Nat.le_of_ble_eq_true rfl, Nat.le_of_ble_eq_true rfl⟩ rfl (Nat.le_of_ble_eq_true rfl) ⟨Nat.le_of_ble_eq_true rfl, Nat.le_of_ble_eq_true rfl⟩ dX8_change_34 ?_
        intro r7 M7 h
        refine j_goto X 61 (by decide) dX8_change_37 ?_
        refine j_lv (lv1 := [(0, .ref (ad 79)), (1, .int i1), (2, .int i2), (3, .int i3)]) [0, 1, 2, 3] rfl ?_
        exact hb61 _ _ _ _  _ h
    · replace h := h.2 q_2
      refine j_iload_n X 3 rfl rfl dX8_change_16 ?_
      refine j_iconst X (v := 0) (by decide) dX8_change_17 ?_
      refine j_bipush X (v := 99) (by decide) dX8_change_18 ?_
      refine j_callSI X (nn := 3) (As := [.int i3, .int 0, .int 99]) (st := []) aw_134 (x_X8_in l D y ad i3 0 99 _ _ h) aw_133 aw_135 aw_5 (by decide +kernel) ⟨Nat.le_of_ble_eq_true rfl, Nat.le_of_ble_eq_true rfl⟩ rfl (Nat.le_of_ble_eq_true rfl) ⟨Nat.le_of_ble_eq_true rfl, Nat.le_of_ble_eq_true rfl⟩ dX8_change_20 ?_
      intro r8 M8 h
      refine j_goto X 61 (by decide) dX8_change_23 ?_
      refine j_lv (lv1 := [(0, .ref (ad 79)), (1, .int i1), (2, .int i2), (3, .int i3)]) [0, 1, 2, 3] rfl ?_
      exact hb61 _ _ _ _  _ h
  · replace h := h.2 q_1
    refine j_iload_n X 3 rfl rfl dX8_change_4 ?_
    refine j_callSI X (nn := 1) (As := [.int i3]) (st := []) aw_137 (x_X8_isArea l D y ad i3 _ _ h) aw_136 aw_138 aw_5 (by decide +kernel) ⟨Nat.le_of_ble_eq_true rfl, Nat.le_of_ble_eq_true rfl⟩ rfl (Nat.le_of_ble_eq_true rfl) ⟨Nat.le_of_ble_eq_true rfl, Nat.le_of_ble_eq_true rfl⟩ dX8_change_5 ?_
    intro r9 M9 h
    refine j_goto X 61 (by decide) dX8_change_8 ?_
    refine j_lv (lv1 := [(0, .ref (ad 79)), (1, .int i1), (2, .int i2), (3, .int i3)]) [0, 1, 2, 3] rfl ?_
    exact hb61 _ _ _ _  _ h
theorem dX8_become_0 : decode cX8_become 0 = .ok (.aload_n 0, 1) := dk_42 (by decide +kernel)
theorem dX8_become_1 : decode cX8_become 1 = .ok (.iload_n 1, 1) := dk_27 (by decide +kernel)
theorem dX8_become_2 : decode cX8_become 2 = .ok (.invokevirtual 73, 3) := dk_182 (by decide +kernel)
theorem dX8_become_5 : decode cX8_become 5 = .ok (.ifCond .eq 13, 3) := dk_153 (by decide +kernel)
theorem dX8_become_18 : decode cX8_become 18 = .ok (.aload_n 0, 1) := dk_42 (by decide +kernel)
theorem dX8_become_19 : decode cX8_become 19 = .ok (.ldc 60, 2) := dk_18 (by decide +kernel)
theorem dX8_become_21 : decode cX8_become 21 = .ok (.invokevirtual 61, 3) := dk_182 (by decide +kernel)
theorem dX8_become_24 : decode cX8_become 24 = .ok (.ireturn, 1) := dk_172 (by decide +kernel)
theorem dX8_become_8 : decode cX8_become 8 = .ok (.iload_n 2, 1) := dk_28 (by decide +kernel)
theorem dX8_become_9 : decode cX8_become 9 = .ok (.iconst 0, 1) := dk_3 (by decide +kernel)
theorem dX8_become_10 : decode cX8_become 10 = .ok (.bipush 69, 2) := dk_16 (by decide +kernel)
theorem dX8_become_12 : decode cX8_become 12 = .ok (.invokestatic 47, 3) := dk_184 (by decide +kernel)
theorem dX8_become_15 : decode cX8_become 15 = .ok (.ifCond .ne 10, 3) := dk_154 (by decide +kernel)
theorem dX8_become_25 : decode cX8_become 25 = .ok (.aload_n 0, 1) := dk_42 (by decide +kernel)
theorem dX8_become_26 : decode cX8_become 26 = .ok (.iload_n 1, 1) := dk_27 (by decide +kernel)
theorem dX8_become_27 : decode cX8_become 27 = .ok (.iconst 1, 1) := dk_4 (by decide +kernel)
theorem dX8_become_28 : decode cX8_become 28 = .ok (.iload_n 2, 1) := dk_28 (by decide +kernel)
theorem dX8_become_29 : decode cX8_become 29 = .ok (.bipush 10, 2) := dk_16 (by decide +kernel)
theorem dX8_become_31 : decode cX8_become 31 = .ok (.irem, 1) := dk_112 (by decide +kernel)
theorem dX8_become_32 : decode cX8_become 32 = .ok (.invokevirtual 69, 3) := dk_182 (by decide +kernel)
theorem dX8_become_35 : decode cX8_become 35 = .ok (.aload_n 0, 1) := dk_42 (by decide +kernel)
theorem dX8_become_36 : decode cX8_become 36 = .ok (.bipush 11, 2) := dk_16 (by decide +kernel)
theorem dX8_become_38 : decode cX8_become 38 = .ok (.bipush 7, 2) := dk_16 (by decide +kernel)
theorem dX8_become_40 : decode cX8_become 40 = .ok (.iload_n 1, 1) := dk_27 (by decide +kernel)
theorem dX8_become_41 : decode cX8_become 41 = .ok (.imul, 1) := dk_104 (by decide +kernel)
theorem dX8_become_42 : decode cX8_become 42 = .ok (.iadd, 1) := dk_96 (by decide +kernel)
theorem dX8_become_43 : decode cX8_become 43 = .ok (.iload_n 2, 1) := dk_28 (by decide +kernel)
theorem dX8_become_44 : decode cX8_become 44 = .ok (.bipush 10, 2) := dk_16 (by decide +kernel)
theorem dX8_become_46 : decode cX8_become 46 = .ok (.idiv, 1) := dk_108 (by decide +kernel)
theorem dX8_become_47 : decode cX8_become 47 = .ok (.invokevirtual 56, 3) := dk_182 (by decide +kernel)
theorem dX8_become_50 : decode cX8_become 50 = .ok (.ireturn, 1) := dk_172 (by decide +kernel)
set_option maxRecDepth 100000 in
set_option maxHeartbeats 8000000 in
theorem x_X8_become (l : Launch) (D : va_G) (y : wY) (ad : Nat → Nat) (i1 : Int32) (i2 : Int32) (M : Mem) (K : Int32 → Mem → Prop) (h : wp_X8_become i1 i2 M K) : MI l D y ad yX8_become (Cond.code yX8_become cX8_become 3 (some .int)) 2 M [.ref (ad 79), .int i1, .int i2] K := by
  refine MI_of (by decide) (Nat.le_of_ble_eq_true rfl) ?_
  intro p e s m args below meth c X hr hlocks
  delta wp_X8_become at h
  refine j_lv (lv1 := [(0, .ref (ad 79)), (1, .int i1), (2, .int i2)]) [0, 1, 2] rfl ?_
  refine j_aload_n X 0 rfl rfl dX8_become_0 ?_
  refine j_iload_n X 1 rfl rfl dX8_become_1 ?_
  refine j_callVI X (nn := 1) (As := [.int i1]) (st := []) (ci := 8) cl_79.1 (wE_8 _ cl_79.2) rfl aw_231 aw_232 (x_X8_isQuarrel l D y ad i1 _ _ h) aw_230 aw_233 aw_5 (by decide +kernel) ⟨Nat.le_of_ble_eq_true rfl, Nat.le_of_ble_eq_true rfl⟩ rfl (Nat.le_of_ble_eq_true rfl) ⟨Nat.le_of_ble_eq_true rfl, Nat.le_of_ble_eq_true rfl⟩ dX8_become_2 ?_
  intro r1 M1 h
  refine j_if_eq X 18 (by decide) dX8_become_5 (fun q_2 => ?_) (fun q_2 => ?_)
  · replace h := h.1 q_2
    refine j_aload_n X 0 rfl rfl dX8_become_18 ?_
    refine j_ldc X (v := (-1000000001)) aw_132 dX8_become_19 ?_
    refine j_callVI X (nn := 1) (As := [.int (-1000000001)]) (st := []) (ci := 8) cl_79.1 (wE_8 _ cl_79.2) rfl aw_144 aw_145 (x_X8_errs l D y ad (-1000000001) _ _ h) aw_143 aw_146 aw_5 (by decide +kernel) ⟨Nat.le_of_ble_eq_true rfl, Nat.le_of_ble_eq_true rfl⟩ rfl (Nat.le_of_ble_eq_true rfl) ⟨Nat.le_of_ble_eq_true rfl, Nat.le_of_ble_eq_true rfl⟩ dX8_become_21 ?_
    intro r3 M3 h
    exact j_iret X hr hlocks dX8_become_24 h
  · replace h := h.2 q_2
    refine j_iload_n X 2 rfl rfl dX8_become_8 ?_
    refine j_iconst X (v := 0) (by decide) dX8_become_9 ?_
    refine j_bipush X (v := 69) (by decide) dX8_become_10 ?_
    refine j_callSI X (nn := 3) (As := [.int i2, .int 0, .int 69]) (st := []) aw_134 (x_X8_in l D y ad i2 0 69 _ _ h) aw_133 aw_135 aw_5 (by decide +kernel) ⟨Nat.le_of_ble_eq_true rfl, Nat.le_of_ble_eq_true rfl⟩ rfl (Nat.le_of_ble_eq_true rfl) ⟨Nat.le_of_ble_eq_true rfl, Nat.le_of_ble_eq_true rfl⟩ dX8_become_12 ?_
    intro r4 M4 h
    refine j_if_ne X 25 (by decide) dX8_become_15 (fun q_5 => ?_) (fun q_5 => ?_)
    · replace h := h.1 q_5
      refine j_aload_n X 0 rfl rfl dX8_become_25 ?_
      refine j_iload_n X 1 rfl rfl dX8_become_26 ?_
      refine j_iconst X (v := 1) (by decide) dX8_become_27 ?_
      refine j_iload_n X 2 rfl rfl dX8_become_28 ?_
      refine j_bipush X (v := 10) (by decide) dX8_become_29 ?_
      refine j_irem X (by decide) dX8_become_31 ?_
      refine j_callVV X (nn := 3) (As := [.int i1, .int 1, .int (i2 - i2 / 10 * 10)]) (st := []) (ci := 8) cl_79.1 (wE_8 _ cl_79.2) rfl aw_183 aw_184 (x_X8_gets l D y ad i1 1 (i2 - i2 / 10 * 10) _ _ h) aw_182 aw_185 aw_5 (by decide +kernel) ⟨Nat.le_of_ble_eq_true rfl, Nat.le_of_ble_eq_true rfl⟩ rfl (Nat.le_of_ble_eq_true rfl) ⟨Nat.le_of_ble_eq_true rfl, Nat.le_of_ble_eq_true rfl⟩ dX8_become_32 ?_
      intro M6 h
      refine j_aload_n X 0 rfl rfl dX8_become_35 ?_
      refine j_bipush X (v := 11) (by decide) dX8_become_36 ?_
      refine j_bipush X (v := 7) (by decide) dX8_become_38 ?_
      refine j_iload_n X 1 rfl rfl dX8_become_40 ?_
      refine j_imul X dX8_become_41 ?_
      refine j_iadd X dX8_become_42 ?_
      refine j_iload_n X 2 rfl rfl dX8_become_43 ?_
      refine j_bipush X (v := 10) (by decide) dX8_become_44 ?_
      refine j_idiv X (by decide) dX8_become_46 ?_
      refine j_callVI X (nn := 2) (As := [.int (11 + (7 * i1)), .int (i2 / 10)]) (st := []) (ci := 8) cl_79.1 (wE_8 _ cl_79.2) rfl aw_140 aw_141 (x_X8_becomes l D y ad (11 + (7 * i1)) (i2 / 10) _ _ h) aw_139 aw_142 aw_5 (by decide +kernel) ⟨Nat.le_of_ble_eq_true rfl, Nat.le_of_ble_eq_true rfl⟩ rfl (Nat.le_of_ble_eq_true rfl) ⟨Nat.le_of_ble_eq_true rfl, Nat.le_of_ble_eq_true rfl⟩ dX8_become_47 ?_
      intro r7 M7 h
      exact j_iret X hr hlocks dX8_become_50 h
    · replace h := h.2 q_5
      refine j_aload_n X 0 rfl rfl dX8_become_18 ?_
      refine j_ldc X (v := (-1000000001)) aw_132 dX8_become_19 ?_
      refine j_callVI X (nn := 1) (As := [.int (-1000000001)]) (st := []) (ci := 8) cl_79.1 (wE_8 _ cl_79.2) rfl aw_144 aw_145 (x_X8_errs l D y ad (-1000000001) _ _ h) aw_143 aw_146 aw_5 (by decide +kernel) ⟨Nat.le_of_ble_eq_true rfl, Nat.le_of_ble_eq_true rfl⟩ rfl (Nat.le_of_ble_eq_true rfl) ⟨Nat.le_of_ble_eq_true rfl, Nat.le_of_ble_eq_true rfl⟩ dX8_become_21 ?_
      intro r8 M8 h
      exact j_iret X hr hlocks dX8_become_24 h
theorem dX8_above_0 : decode cX8_above 0 = .ok (.iload_n 0, 1) := dk_26 (by decide +kernel)
theorem dX8_above_1 : decode cX8_above 1 = .ok (.ifCond .ne 7, 3) := dk_154 (by decide +kernel)
theorem dX8_above_8 : decode cX8_above 8 = .ok (.iload_n 0, 1) := dk_26 (by decide +kernel)
theorem dX8_above_9 : decode cX8_above 9 = .ok (.iconst 3, 1) := dk_6 (by decide +kernel)
theorem dX8_above_10 : decode cX8_above 10 = .ok (.if_icmp .le 9, 3) := dk_164 (by decide +kernel)
theorem dX8_above_19 : decode cX8_above 19 = .ok (.iconst 0, 1) := dk_3 (by decide +kernel)
theorem dX8_above_20 : decode cX8_above 20 = .ok (.ireturn, 1) := dk_172 (by decide +kernel)
theorem dX8_above_13 : decode cX8_above 13 = .ok (.iload_n 0, 1) := dk_26 (by decide +kernel)
theorem dX8_above_14 : decode cX8_above 14 = .ok (.iconst 3, 1) := dk_6 (by decide +kernel)
theorem dX8_above_15 : decode cX8_above 15 = .ok (.isub, 1) := dk_100 (by decide +kernel)
theorem dX8_above_16 : decode cX8_above 16 = .ok (.goto 4, 3) := dk_167 (by decide +kernel)
theorem dX8_above_4 : decode cX8_above 4 = .ok (.iconst (-1), 1) := dk_2 (by decide +kernel)
theorem dX8_above_5 : decode cX8_above 5 = .ok (.goto 15, 3) := dk_167 (by decide +kernel)
set_option maxRecDepth 100000 in
set_option maxHeartbeats 8000000 in
theorem x_X8_above (l : Launch) (D : va_G) (y : wY) (ad : Nat → Nat) (i0 : Int32) (M : Mem) (K : Int32 → Mem → Prop) (h : wp_X8_above i0 M K) : MI l D y ad yX8_above (Cond.code yX8_above cX8_above 1 (some .int)) 0 M [.int i0] K := by
  refine MI_of (by decide) (Nat.le_of_ble_eq_true rfl) ?_
  intro p e s m args below meth c X hr hlocks
  delta wp_X8_above at h
  refine j_lv (lv1 := [(0, .int i0)]) [0] rfl ?_
  refine j_iload_n X 0 rfl rfl dX8_above_0 ?_
  refine j_if_ne X 8 (by decide) dX8_above_1 (fun q_1 => ?_) (fun q_1 => ?_)
  · replace h := h.1 q_1
    refine j_iload_n X 0 rfl rfl dX8_above_8 ?_
    refine j_iconst X (v := 3) (by decide) dX8_above_9 ?_
    refine j_icmp_le X 19 (by decide) dX8_above_10 (fun q_2 => ?_) (fun q_2 => ?_)
    · replace h := h.1 q_2
      refine j_iconst X (v := 0) (by decide) dX8_above_19 ?_
      exact j_iret X hr hlocks dX8_above_20 h
    · replace h := h.2 q_2
      refine j_iload_n X 0 rfl rfl dX8_above_13 ?_
      refine j_iconst X (v := 3) (by decide) dX8_above_14 ?_
      refine j_isub X dX8_above_15 ?_
      refine j_goto X 20 (by decide) dX8_above_16 ?_
      exact j_iret X hr hlocks dX8_above_20 h
  · replace h := h.2 q_1
    refine j_iconst X (v := (-1)) (by decide) dX8_above_4 ?_
    refine j_goto X 20 (by decide) dX8_above_5 ?_
    exact j_iret X hr hlocks dX8_above_20 h
theorem dX8_as_32 : decode cX8_as 32 = .ok (.iload_n 3, 1) := dk_29 (by decide +kernel)
theorem dX8_as_33 : decode cX8_as 33 = .ok (.ifCond .lt 16, 3) := dk_155 (by decide +kernel)
theorem dX8_as_49 : decode cX8_as 49 = .ok (.iload_n 3, 1) := dk_29 (by decide +kernel)
theorem dX8_as_50 : decode cX8_as 50 = .ok (.ifCond .ge 12, 3) := dk_156 (by decide +kernel)
theorem dX8_as_62 : decode cX8_as 62 = .ok (.aload_n 0, 1) := dk_42 (by decide +kernel)
theorem dX8_as_63 : decode cX8_as 63 = .ok (.iload_n 1, 1) := dk_27 (by decide +kernel)
theorem dX8_as_64 : decode cX8_as 64 = .ok (.iconst 1, 1) := dk_4 (by decide +kernel)
theorem dX8_as_65 : decode cX8_as 65 = .ok (.invokevirtual 65, 3) := dk_182 (by decide +kernel)
theorem dX8_as_68 : decode cX8_as 68 = .ok (.ireturn, 1) := dk_172 (by decide +kernel)
theorem dX8_as_53 : decode cX8_as 53 = .ok (.aload_n 0, 1) := dk_42 (by decide +kernel)
theorem dX8_as_54 : decode cX8_as 54 = .ok (.ldc 88, 2) := dk_18 (by decide +kernel)
theorem dX8_as_56 : decode cX8_as 56 = .ok (.invokevirtual 61, 3) := dk_182 (by decide +kernel)
theorem dX8_as_59 : decode cX8_as 59 = .ok (.goto 9, 3) := dk_167 (by decide +kernel)
theorem dX8_as_36 : decode cX8_as 36 = .ok (.iload_n 3, 1) := dk_29 (by decide +kernel)
theorem dX8_as_37 : decode cX8_as 37 = .ok (.iload_n 2, 1) := dk_28 (by decide +kernel)
theorem dX8_as_38 : decode cX8_as 38 = .ok (.if_icmp .eq 11, 3) := dk_159 (by decide +kernel)
theorem dX8_as_41 : decode cX8_as 41 = .ok (.iload_n 3, 1) := dk_29 (by decide +kernel)
theorem dX8_as_42 : decode cX8_as 42 = .ok (.invokestatic 85, 3) := dk_184 (by decide +kernel)
theorem dX8_as_45 : decode cX8_as 45 = .ok (.istore_n 3, 1) := dk_62 (by decide +kernel)
theorem dX8_as_46 : decode cX8_as 46 = .ok (.goto (-14), 3) := dk_167 (by decide +kernel)
theorem dX8_as_0 : decode cX8_as 0 = .ok (.aload_n 0, 1) := dk_42 (by decide +kernel)
theorem dX8_as_1 : decode cX8_as 1 = .ok (.iload_n 1, 1) := dk_27 (by decide +kernel)
theorem dX8_as_2 : decode cX8_as 2 = .ok (.invokevirtual 73, 3) := dk_182 (by decide +kernel)
theorem dX8_as_5 : decode cX8_as 5 = .ok (.ifCond .eq 13, 3) := dk_153 (by decide +kernel)
theorem dX8_as_18 : decode cX8_as 18 = .ok (.aload_n 0, 1) := dk_42 (by decide +kernel)
theorem dX8_as_19 : decode cX8_as 19 = .ok (.ldc 60, 2) := dk_18 (by decide +kernel)
theorem dX8_as_21 : decode cX8_as 21 = .ok (.invokevirtual 61, 3) := dk_182 (by decide +kernel)
theorem dX8_as_24 : decode cX8_as 24 = .ok (.ireturn, 1) := dk_172 (by decide +kernel)
theorem dX8_as_8 : decode cX8_as 8 = .ok (.iload_n 2, 1) := dk_28 (by decide +kernel)
theorem dX8_as_9 : decode cX8_as 9 = .ok (.iconst 0, 1) := dk_3 (by decide +kernel)
theorem dX8_as_10 : decode cX8_as 10 = .ok (.bipush 6, 2) := dk_16 (by decide +kernel)
theorem dX8_as_12 : decode cX8_as 12 = .ok (.invokestatic 47, 3) := dk_184 (by decide +kernel)
theorem dX8_as_15 : decode cX8_as 15 = .ok (.ifCond .ne 10, 3) := dk_154 (by decide +kernel)
theorem dX8_as_25 : decode cX8_as 25 = .ok (.aload_n 0, 1) := dk_42 (by decide +kernel)
theorem dX8_as_26 : decode cX8_as 26 = .ok (.iload_n 1, 1) := dk_27 (by decide +kernel)
theorem dX8_as_27 : decode cX8_as 27 = .ok (.iconst 0, 1) := dk_3 (by decide +kernel)
theorem dX8_as_28 : decode cX8_as 28 = .ok (.invokevirtual 65, 3) := dk_182 (by decide +kernel)
theorem dX8_as_31 : decode cX8_as 31 = .ok (.istore_n 3, 1) := dk_62 (by decide +kernel)
set_option maxRecDepth 100000 in
set_option maxHeartbeats 8000000 in
theorem x_X8_as (l : Launch) (D : va_G) (y : wY) (ad : Nat → Nat) (i1 : Int32) (i2 : Int32) (M : Mem) (K : Int32 → Mem → Prop) (h : wp_X8_as i1 i2 M K) : MI l D y ad yX8_as (Cond.code yX8_as cX8_as 4 (some .int)) 2 M [.ref (ad 79), .int i1, .int i2] K := by
  refine MI_of (by decide) (Nat.le_of_ble_eq_true rfl) ?_
  intro p e s m args below meth c X hr hlocks
  have hL32 : ∀ (i1 : Int32) (i2 : Int32) (n : Nat) (i3 : Int32) (Mb : Mem), wp_X8_as_L32 K i1 i2 n i3 Mb → J p l e (rmN 2) s m args below meth c 0 0 (QI K D y ad M s args below) D y ad (va_A (PL y ad M) s.heap.size) 4 Mb 32 [(0, .ref (ad 79)), (1, .int i1), (2, .int i2), (3, .int i3)] [] := by
    intro i1 i2 n
    induction n with
    | zero => intro i3 Mb h; exact False.elim h
    | succ n hB32 =>
      intro i3 Mb h
      replace h : wp_X8_as_l32 K i1 i2 (wp_X8_as_L32 K i1 i2 n) i3 Mb := h
      delta wp_X8_as_l32 at h
      refine j_iload_n X 3 rfl rfl dX8_as_32 ?_
      refine j_if_lt X 49 (by decide) dX8_as_33 (fun q_3201 => ?_) (fun q_3201 => ?_)
      · replace h := h.1 q_3201
        refine j_iload_n X 3 rfl rfl dX8_as_49 ?_
        refine j_if_ge X 62 (by decide) dX8_as_50 (fun q_3202 => ?_) (fun q_3202 => ?_)
        · replace h := h.1 q_3202
          refine j_aload_n X 0 rfl rfl dX8_as_62 ?_
          refine j_iload_n X 1 rfl rfl dX8_as_63 ?_
          refine j_iconst X (v := 1) (by decide) dX8_as_64 ?_
          refine j_callVI X (nn := 2) (As := [.int i1, .int 1]) (st := []) (ci := 8) cl_79.1 (wE_8 _ cl_79.2) rfl aw_161 aw_162 (x_X8_its l D y ad i1 1 _ _ h) aw_160 aw_163 aw_5 (by decide +kernel) ⟨Nat.le_of_ble_eq_true rfl, Nat.le_of_ble_eq_true rfl⟩ rfl (Nat.le_of_ble_eq_true rfl) ⟨Nat.le_of_ble_eq_true rfl, Nat.le_of_ble_eq_true rfl⟩ dX8_as_65 ?_
          intro r3203 M3203 h
          exact j_iret X hr hlocks dX8_as_68 h
        · replace h := h.2 q_3202
          refine j_aload_n X 0 rfl rfl dX8_as_53 ?_
          refine j_ldc X (v := (-1000000005)) aw_297 dX8_as_54 ?_
          refine j_callVI X (nn := 1) (As := [.int (-1000000005)]) (st := []) (ci := 8) cl_79.1 (wE_8 _ cl_79.2) rfl aw_144 aw_145 (x_X8_errs l D y ad (-1000000005) _ _ h) aw_143 aw_146 aw_5 (by decide +kernel) ⟨Nat.le_of_ble_eq_true rfl, Nat.le_of_ble_eq_true rfl⟩ rfl (Nat.le_of_ble_eq_true rfl) ⟨Nat.le_of_ble_eq_true rfl, Nat.le_of_ble_eq_true rfl⟩ dX8_as_56 ?_
          intro r3204 M3204 h
          refine j_goto X 68 (by decide) dX8_as_59 ?_
          exact j_iret X hr hlocks dX8_as_68 h
      · replace h := h.2 q_3201
        refine j_iload_n X 3 rfl rfl dX8_as_36 ?_
        refine j_iload_n X 2 rfl rfl dX8_as_37 ?_
        refine j_icmp_eq X 49 (by decide) dX8_as_38 (fun q_3205 => ?_) (fun q_3205 => ?_)
        · replace h := h.1 q_3205
          refine j_iload_n X 3 rfl rfl dX8_as_49 ?_
          refine j_if_ge X 62 (by decide) dX8_as_50 (fun q_3206 => ?_) (fun q_3206 => ?_)
          · replace h := h.1 q_3206
            refine j_aload_n X 0 rfl rfl dX8_as_62 ?_
            refine j_iload_n X 1 rfl rfl dX8_as_63 ?_
            refine j_iconst X (v := 1) (by decide) dX8_as_64 ?_
            refine j_callVI X (nn := 2) (As := [.int i1, .int 1]) (st := []) (ci := 8) cl_79.1 (wE_8 _ cl_79.2) rfl aw_161 aw_162 (x_X8_its l D y ad i1 1 _ _ h) aw_160 aw_163 aw_5 (by decide +kernel) ⟨Nat.le_of_ble_eq_true rfl, Nat.le_of_ble_eq_true rfl⟩ rfl (Nat.le_of_ble_eq_true rfl) ⟨Nat.le_of_ble_eq_true rfl, Nat.le_of_ble_eq_true rfl⟩ dX8_as_65 ?_
            intro r3207 M3207 h
            exact j_iret X hr hlocks dX8_as_68 h
          · replace h := h.2 q_3206
            refine j_aload_n X 0 rfl rfl dX8_as_53 ?_
            refine j_ldc X (v := (-1000000005)) aw_297 dX8_as_54 ?_
            refine j_callVI X (nn := 1) (As := [.int (-1000000005)]) (st := []) (ci := 8) cl_79.1 (wE_8 _ cl_79.2) rfl aw_144 aw_145 (x_X8_errs l D y ad (-1000000005) _ _ h) aw_143 aw_146 aw_5 (by decide +kernel) ⟨Nat.le_of_ble_eq_true rfl, Nat.le_of_ble_eq_true rfl⟩ rfl (Nat.le_of_ble_eq_true rfl) ⟨Nat.le_of_ble_eq_true rfl, Nat.le_of_ble_eq_true rfl⟩ dX8_as_56 ?_
            intro r3208 M3208 h
            refine j_goto X 68 (by decide) dX8_as_59 ?_
            exact j_iret X hr hlocks dX8_as_68 h
        · replace h := h.2 q_3205
          refine j_iload_n X 3 rfl rfl dX8_as_41 ?_
          refine j_callSI X (nn := 1) (As := [.int i3]) (st := []) aw_299 (x_X8_above l D y ad i3 _ _ h) aw_298 aw_300 aw_5 (by decide +kernel) ⟨Nat.le_of_ble_eq_true rfl, Nat.le_of_ble_eq_true rfl⟩ rfl (Nat.le_of_ble_eq_true rfl) ⟨Nat.le_of_ble_eq_true rfl, Nat.le_of_ble_eq_true rfl⟩ dX8_as_42 ?_
          intro r3209 M3209 h
          refine j_istore_n X [(3, .int r3209), (0, .ref (ad 79)), (1, .int i1), (2, .int i2)] rfl (by decide) rfl dX8_as_45 ?_
          refine j_goto X 32 (by decide) dX8_as_46 ?_
          refine j_lv (lv1 := [(0, .ref (ad 79)), (1, .int i1), (2, .int i2), (3, .int r3209)]) [1, 2, 3, 0] rfl ?_
          exact hB32 _ _ h
  delta wp_X8_as at h
  refine j_lv (lv1 := [(0, .ref (ad 79)), (1, .int i1), (2, .int i2)]) [0, 1, 2] rfl ?_
  refine j_aload_n X 0 rfl rfl dX8_as_0 ?_
  refine j_iload_n X 1 rfl rfl dX8_as_1 ?_
  refine j_callVI X (nn := 1) (As := [.int i1]) (st := []) (ci := 8) cl_79.1 (wE_8 _ cl_79.2) rfl aw_231 aw_232 (x_X8_isQuarrel l D y ad i1 _ _ h) aw_230 aw_233 aw_5 (by decide +kernel) ⟨Nat.le_of_ble_eq_true rfl, Nat.le_of_ble_eq_true rfl⟩ rfl (Nat.le_of_ble_eq_true rfl) ⟨Nat.le_of_ble_eq_true rfl, Nat.le_of_ble_eq_true rfl⟩ dX8_as_2 ?_
  intro r1 M1 h
  refine j_if_eq X 18 (by decide) dX8_as_5 (fun q_2 => ?_) (fun q_2 => ?_)
  · replace h := h.1 q_2
    refine j_aload_n X 0 rfl rfl dX8_as_18 ?_
    refine j_ldc X (v := (-1000000001)) aw_132 dX8_as_19 ?_
    refine j_callVI X (nn := 1) (As := [.int (-1000000001)]) (st := []) (ci := 8) cl_79.1 (wE_8 _ cl_79.2) rfl aw_144 aw_145 (x_X8_errs l D y ad (-1000000001) _ _ h) aw_143 aw_146 aw_5 (by decide +kernel) ⟨Nat.le_of_ble_eq_true rfl, Nat.le_of_ble_eq_true rfl⟩ rfl (Nat.le_of_ble_eq_true rfl) ⟨Nat.le_of_ble_eq_true rfl, Nat.le_of_ble_eq_true rfl⟩ dX8_as_21 ?_
    intro r3 M3 h
    exact j_iret X hr hlocks dX8_as_24 h
  · replace h := h.2 q_2
    refine j_iload_n X 2 rfl rfl dX8_as_8 ?_
    refine j_iconst X (v := 0) (by decide) dX8_as_9 ?_
    refine j_bipush X (v := 6) (by decide) dX8_as_10 ?_
    refine j_callSI X (nn := 3) (As := [.int i2, .int 0, .int 6]) (st := []) aw_134 (x_X8_in l D y ad i2 0 6 _ _ h) aw_133 aw_135 aw_5 (by decide +kernel) ⟨Nat.le_of_ble_eq_true rfl, Nat.le_of_ble_eq_true rfl⟩ rfl (Nat.le_of_ble_eq_true rfl) ⟨Nat.le_of_ble_eq_true rfl, Nat.le_of_ble_eq_true rfl⟩ dX8_as_12 ?_
    intro r4 M4 h
    refine j_if_ne X 25 (by decide) dX8_as_15 (fun q_5 => ?_) (fun q_5 => ?_)
    · replace h := h.1 q_5
      refine j_aload_n X 0 rfl rfl dX8_as_25 ?_
      refine j_iload_n X 1 rfl rfl dX8_as_26 ?_
      refine j_iconst X (v := 0) (by decide) dX8_as_27 ?_
      refine j_callVI X (nn := 2) (As := [.int i1, .int 0]) (st := []) (ci := 8) cl_79.1 (wE_8 _ cl_79.2) rfl aw_161 aw_162 (x_X8_its l D y ad i1 0 _ _ h) aw_160 aw_163 aw_5 (by decide +kernel) ⟨Nat.le_of_ble_eq_true rfl, Nat.le_of_ble_eq_true rfl⟩ rfl (Nat.le_of_ble_eq_true rfl) ⟨Nat.le_of_ble_eq_true rfl, Nat.le_of_ble_eq_true rfl⟩ dX8_as_28 ?_
      intro r6 M6 h
      refine j_istore_n X [(3, .int r6), (0, .ref (ad 79)), (1, .int i1), (2, .int i2)] rfl (by decide) rfl dX8_as_31 ?_
      refine j_lv (lv1 := [(0, .ref (ad 79)), (1, .int i1), (2, .int i2), (3, .int r6)]) [1, 2, 3, 0] rfl ?_
      obtain ⟨n32, h⟩ := h
      exact hL32 _ _   n32 _ _ h
    · replace h := h.2 q_5
      refine j_aload_n X 0 rfl rfl dX8_as_18 ?_
      refine j_ldc X (v := (-1000000001)) aw_132 dX8_as_19 ?_
      refine j_callVI X (nn := 1) (As := [.int (-1000000001)]) (st := []) (ci := 8) cl_79.1 (wE_8 _ cl_79.2) rfl aw_144 aw_145 (x_X8_errs l D y ad (-1000000001) _ _ h) aw_143 aw_146 aw_5 (by decide +kernel) ⟨Nat.le_of_ble_eq_true rfl, Nat.le_of_ble_eq_true rfl⟩ rfl (Nat.le_of_ble_eq_true rfl) ⟨Nat.le_of_ble_eq_true rfl, Nat.le_of_ble_eq_true rfl⟩ dX8_as_21 ?_
      intro r7 M7 h
      exact j_iret X hr hlocks dX8_as_24 h
theorem dX8_byteAt_0 : decode cX8_byteAt 0 = .ok (.iload_n 1, 1) := dk_27 (by decide +kernel)
theorem dX8_byteAt_1 : decode cX8_byteAt 1 = .ok (.aload_n 0, 1) := dk_42 (by decide +kernel)
theorem dX8_byteAt_2 : decode cX8_byteAt 2 = .ok (.getfield 89, 3) := dk_180 (by decide +kernel)
theorem dX8_byteAt_5 : decode cX8_byteAt 5 = .ok (.if_icmp .ge 15, 3) := dk_162 (by decide +kernel)
theorem dX8_byteAt_20 : decode cX8_byteAt 20 = .ok (.iconst (-1), 1) := dk_2 (by decide +kernel)
theorem dX8_byteAt_21 : decode cX8_byteAt 21 = .ok (.ireturn, 1) := dk_172 (by decide +kernel)
theorem dX8_byteAt_8 : decode cX8_byteAt 8 = .ok (.aload_n 0, 1) := dk_42 (by decide +kernel)
theorem dX8_byteAt_9 : decode cX8_byteAt 9 = .ok (.getfield 7, 3) := dk_180 (by decide +kernel)
theorem dX8_byteAt_12 : decode cX8_byteAt 12 = .ok (.bipush 74, 2) := dk_16 (by decide +kernel)
theorem dX8_byteAt_14 : decode cX8_byteAt 14 = .ok (.iload_n 1, 1) := dk_27 (by decide +kernel)
theorem dX8_byteAt_15 : decode cX8_byteAt 15 = .ok (.iadd, 1) := dk_96 (by decide +kernel)
theorem dX8_byteAt_16 : decode cX8_byteAt 16 = .ok (.iaload, 1) := dk_46 (by decide +kernel)
theorem dX8_byteAt_17 : decode cX8_byteAt 17 = .ok (.goto 4, 3) := dk_167 (by decide +kernel)
set_option maxRecDepth 100000 in
set_option maxHeartbeats 8000000 in
theorem x_X8_byteAt (l : Launch) (D : va_G) (y : wY) (ad : Nat → Nat) (i1 : Int32) (M : Mem) (K : Int32 → Mem → Prop) (h : wp_X8_byteAt i1 M K) : MI l D y ad yX8_byteAt (Cond.code yX8_byteAt cX8_byteAt 2 (some .int)) 0 M [.ref (ad 79), .int i1] K := by
  refine MI_of (by decide) (Nat.le_of_ble_eq_true rfl) ?_
  intro p e s m args below meth c X hr hlocks
  delta wp_X8_byteAt at h
  refine j_lv (lv1 := [(0, .ref (ad 79)), (1, .int i1)]) [0, 1] rfl ?_
  refine j_iload_n X 1 rfl rfl dX8_byteAt_0 ?_
  refine j_aload_n X 0 rfl rfl dX8_byteAt_1 ?_
  refine j_get X cl_79.1 (wE_8 _ cl_79.2) rfl awF8 8 (by decide) aw_379 rfl (v := .int (M 79 8)) rfl dX8_byteAt_2 ?_
  refine j_icmp_ge X 20 (by decide) dX8_byteAt_5 (fun q_1 => ?_) (fun q_1 => ?_)
  · replace h := h.1 q_1
    refine j_iconst X (v := (-1)) (by decide) dX8_byteAt_20 ?_
    exact j_iret X hr hlocks dX8_byteAt_21 h
  · replace h := h.2 q_1
    refine j_aload_n X 0 rfl rfl dX8_byteAt_8 ?_
    refine j_get X cl_79.1 (wE_8 _ cl_79.2) rfl awF8 0 (by decide) aw_92 rfl (v := .ref (ad 80)) rfl dX8_byteAt_9 ?_
    refine j_bipush X (v := 74) (by decide) dX8_byteAt_12 ?_
    refine j_iload_n X 1 rfl rfl dX8_byteAt_14 ?_
    refine j_iadd X dX8_byteAt_15 ?_
    obtain ⟨hi_2, h⟩ := h
    refine j_iald X cl_80.1 cl_80.2 hi_2 dX8_byteAt_16 ?_
    refine j_goto X 21 (by decide) dX8_byteAt_17 ?_
    exact j_iret X hr hlocks dX8_byteAt_21 h
theorem dX8_isDigit_0 : decode cX8_isDigit 0 = .ok (.iload_n 0, 1) := dk_26 (by decide +kernel)
theorem dX8_isDigit_1 : decode cX8_isDigit 1 = .ok (.bipush 48, 2) := dk_16 (by decide +kernel)
theorem dX8_isDigit_3 : decode cX8_isDigit 3 = .ok (.bipush 57, 2) := dk_16 (by decide +kernel)
theorem dX8_isDigit_5 : decode cX8_isDigit 5 = .ok (.invokestatic 47, 3) := dk_184 (by decide +kernel)
theorem dX8_isDigit_8 : decode cX8_isDigit 8 = .ok (.ireturn, 1) := dk_172 (by decide +kernel)
set_option maxRecDepth 100000 in
set_option maxHeartbeats 8000000 in
theorem x_X8_isDigit (l : Launch) (D : va_G) (y : wY) (ad : Nat → Nat) (i0 : Int32) (M : Mem) (K : Int32 → Mem → Prop) (h : wp_X8_isDigit i0 M K) : MI l D y ad yX8_isDigit (Cond.code yX8_isDigit cX8_isDigit 1 (some .boolean)) 1 M [.int i0] K := by
  refine MI_of (by decide) (Nat.le_of_ble_eq_true rfl) ?_
  intro p e s m args below meth c X hr hlocks
  delta wp_X8_isDigit at h
  refine j_lv (lv1 := [(0, .int i0)]) [0] rfl ?_
  refine j_iload_n X 0 rfl rfl dX8_isDigit_0 ?_
  refine j_bipush X (v := 48) (by decide) dX8_isDigit_1 ?_
  refine j_bipush X (v := 57) (by decide) dX8_isDigit_3 ?_
  refine j_callSI X (nn := 3) (As := [.int i0, .int 48, .int 57]) (st := []) aw_134 (x_X8_in l D y ad i0 48 57 _ _ h) aw_133 aw_135 aw_5 (by decide +kernel) ⟨Nat.le_of_ble_eq_true rfl, Nat.le_of_ble_eq_true rfl⟩ rfl (Nat.le_of_ble_eq_true rfl) ⟨Nat.le_of_ble_eq_true rfl, Nat.le_of_ble_eq_true rfl⟩ dX8_isDigit_5 ?_
  intro r1 M1 h
  obtain ⟨hb_2, h⟩ := h
  exact j_zret X hr hlocks hb_2 dX8_isDigit_8 h
theorem dX8_adds_0 : decode cX8_adds 0 = .ok (.aload_n 0, 1) := dk_42 (by decide +kernel)
theorem dX8_adds_1 : decode cX8_adds 1 = .ok (.getfield 93, 3) := dk_180 (by decide +kernel)
theorem dX8_adds_4 : decode cX8_adds 4 = .ok (.ifCond .eq 23, 3) := dk_153 (by decide +kernel)
theorem dX8_adds_27 : decode cX8_adds 27 = .ok (.return_, 1) := dk_177 (by decide +kernel)
theorem dX8_adds_7 : decode cX8_adds 7 = .ok (.aload_n 0, 1) := dk_42 (by decide +kernel)
theorem dX8_adds_8 : decode cX8_adds 8 = .ok (.getfield 22, 3) := dk_180 (by decide +kernel)
theorem dX8_adds_11 : decode cX8_adds 11 = .ok (.aload_n 0, 1) := dk_42 (by decide +kernel)
theorem dX8_adds_12 : decode cX8_adds 12 = .ok (.getfield 97, 3) := dk_180 (by decide +kernel)
theorem dX8_adds_15 : decode cX8_adds 15 = .ok (.iload_n 1, 1) := dk_27 (by decide +kernel)
theorem dX8_adds_16 : decode cX8_adds 16 = .ok (.iastore, 1) := dk_79 (by decide +kernel)
theorem dX8_adds_17 : decode cX8_adds 17 = .ok (.aload_n 0, 1) := dk_42 (by decide +kernel)
theorem dX8_adds_18 : decode cX8_adds 18 = .ok (.dup, 1) := dk_89 (by decide +kernel)
theorem dX8_adds_19 : decode cX8_adds 19 = .ok (.getfield 97, 3) := dk_180 (by decide +kernel)
theorem dX8_adds_22 : decode cX8_adds 22 = .ok (.iconst 1, 1) := dk_4 (by decide +kernel)
theorem dX8_adds_23 : decode cX8_adds 23 = .ok (.iadd, 1) := dk_96 (by decide +kernel)
theorem dX8_adds_24 : decode cX8_adds 24 = .ok (.putfield 97, 3) := dk_181 (by decide +kernel)
set_option maxRecDepth 100000 in
set_option maxHeartbeats 8000000 in
theorem x_X8_adds (l : Launch) (D : va_G) (y : wY) (ad : Nat → Nat) (i1 : Int32) (M : Mem) (K : Mem → Prop) (h : wp_X8_adds i1 M K) : MV l D y ad yX8_adds (Cond.code yX8_adds cX8_adds 2 none) 0 M [.ref (ad 79), .int i1] K := by
  refine MV_of (by decide) (Nat.le_of_ble_eq_true rfl) ?_
  intro p e s m args below meth c X hr hlocks
  delta wp_X8_adds at h
  refine j_lv (lv1 := [(0, .ref (ad 79)), (1, .int i1)]) [0, 1] rfl ?_
  refine j_aload_n X 0 rfl rfl dX8_adds_0 ?_
  refine j_get X cl_79.1 (wE_8 _ cl_79.2) rfl awF8 11 (by decide) aw_382 rfl (v := .int (M 79 11)) rfl dX8_adds_1 ?_
  refine j_if_eq X 27 (by decide) dX8_adds_4 (fun q_1 => ?_) (fun q_1 => ?_)
  · replace h := h.1 q_1
    exact j_vret X hr hlocks dX8_adds_27 h
  · replace h := h.2 q_1
    refine j_aload_n X 0 rfl rfl dX8_adds_7 ?_
    refine j_get X cl_79.1 (wE_8 _ cl_79.2) rfl awF8 12 (by decide) aw_96 rfl (v := .ref (ad 84)) rfl dX8_adds_8 ?_
    refine j_aload_n X 0 rfl rfl dX8_adds_11 ?_
    refine j_get X cl_79.1 (wE_8 _ cl_79.2) rfl awF8 10 (by decide) aw_381 rfl (v := .int (M 79 10)) rfl dX8_adds_12 ?_
    refine j_iload_n X 1 rfl rfl dX8_adds_15 ?_
    obtain ⟨hi_2, h⟩ := h
    refine j_iast X cl_84.1 cl_84.2 hi_2 dX8_adds_16 ?_
    refine j_aload_n X 0 rfl rfl dX8_adds_17 ?_
    refine j_dup X rfl dX8_adds_18 ?_
    refine j_get X cl_79.1 (wE_8 _ cl_79.2) rfl awF8 10 (by decide) aw_381 rfl (v := .int ((up M 84 (M 79 10).toNatClampNeg i1) 79 10)) rfl dX8_adds_19 ?_
    refine j_iconst X (v := 1) (by decide) dX8_adds_22 ?_
    refine j_iadd X dX8_adds_23 ?_
    refine j_put X (up (up M 84 (M 79 10).toNatClampNeg i1) 79 10 (((up M 84 (M 79 10).toNatClampNeg i1) 79 10) + 1)) up_o cl_79.1 (wE_8 _ cl_79.2) rfl awF8 10 (by decide) (wP_8_10 _ _ cl_79.2) tyX8 tyX8_ok nmX8 rfl (ty := .int) (by decide +kernel) rfl rfl (Nat.le_of_ble_eq_true rfl) aw_381 rfl dX8_adds_24 ?_
    exact j_vret X hr hlocks dX8_adds_27 h
theorem dX8_number_4 : decode cX8_number 4 = .ok (.iload_n 2, 1) := dk_28 (by decide +kernel)
theorem dX8_number_5 : decode cX8_number 5 = .ok (.iconst 4, 1) := dk_7 (by decide +kernel)
theorem dX8_number_6 : decode cX8_number 6 = .ok (.if_icmp .ge 50, 3) := dk_162 (by decide +kernel)
theorem dX8_number_56 : decode cX8_number 56 = .ok (.aload_n 0, 1) := dk_42 (by decide +kernel)
theorem dX8_number_57 : decode cX8_number 57 = .ok (.iload_n 1, 1) := dk_27 (by decide +kernel)
theorem dX8_number_58 : decode cX8_number 58 = .ok (.invokevirtual 109, 3) := dk_182 (by decide +kernel)
theorem dX8_number_61 : decode cX8_number 61 = .ok (.return_, 1) := dk_177 (by decide +kernel)
theorem dX8_number_9 : decode cX8_number 9 = .ok (.aload_n 0, 1) := dk_42 (by decide +kernel)
theorem dX8_number_10 : decode cX8_number 10 = .ok (.aload_n 0, 1) := dk_42 (by decide +kernel)
theorem dX8_number_11 : decode cX8_number 11 = .ok (.getfield 100, 3) := dk_180 (by decide +kernel)
theorem dX8_number_14 : decode cX8_number 14 = .ok (.invokevirtual 103, 3) := dk_182 (by decide +kernel)
theorem dX8_number_17 : decode cX8_number 17 = .ok (.invokestatic 106, 3) := dk_184 (by decide +kernel)
theorem dX8_number_20 : decode cX8_number 20 = .ok (.ifCond .eq 36, 3) := dk_153 (by decide +kernel)
theorem dX8_number_23 : decode cX8_number 23 = .ok (.bipush 10, 2) := dk_16 (by decide +kernel)
theorem dX8_number_25 : decode cX8_number 25 = .ok (.iload_n 1, 1) := dk_27 (by decide +kernel)
theorem dX8_number_26 : decode cX8_number 26 = .ok (.imul, 1) := dk_104 (by decide +kernel)
theorem dX8_number_27 : decode cX8_number 27 = .ok (.aload_n 0, 1) := dk_42 (by decide +kernel)
theorem dX8_number_28 : decode cX8_number 28 = .ok (.aload_n 0, 1) := dk_42 (by decide +kernel)
theorem dX8_number_29 : decode cX8_number 29 = .ok (.getfield 100, 3) := dk_180 (by decide +kernel)
theorem dX8_number_32 : decode cX8_number 32 = .ok (.invokevirtual 103, 3) := dk_182 (by decide +kernel)
theorem dX8_number_35 : decode cX8_number 35 = .ok (.iadd, 1) := dk_96 (by decide +kernel)
theorem dX8_number_36 : decode cX8_number 36 = .ok (.bipush 48, 2) := dk_16 (by decide +kernel)
theorem dX8_number_38 : decode cX8_number 38 = .ok (.isub, 1) := dk_100 (by decide +kernel)
theorem dX8_number_39 : decode cX8_number 39 = .ok (.istore_n 1, 1) := dk_60 (by decide +kernel)
theorem dX8_number_40 : decode cX8_number 40 = .ok (.aload_n 0, 1) := dk_42 (by decide +kernel)
theorem dX8_number_41 : decode cX8_number 41 = .ok (.dup, 1) := dk_89 (by decide +kernel)
theorem dX8_number_42 : decode cX8_number 42 = .ok (.getfield 100, 3) := dk_180 (by decide +kernel)
theorem dX8_number_45 : decode cX8_number 45 = .ok (.iconst 1, 1) := dk_4 (by decide +kernel)
theorem dX8_number_46 : decode cX8_number 46 = .ok (.iadd, 1) := dk_96 (by decide +kernel)
theorem dX8_number_47 : decode cX8_number 47 = .ok (.putfield 100, 3) := dk_181 (by decide +kernel)
theorem dX8_number_50 : decode cX8_number 50 = .ok (.iinc 2 1, 3) := dk_132 (by decide +kernel)
theorem dX8_number_53 : decode cX8_number 53 = .ok (.goto (-49), 3) := dk_167 (by decide +kernel)
theorem dX8_number_0 : decode cX8_number 0 = .ok (.iconst 0, 1) := dk_3 (by decide +kernel)
theorem dX8_number_1 : decode cX8_number 1 = .ok (.istore_n 1, 1) := dk_60 (by decide +kernel)
theorem dX8_number_2 : decode cX8_number 2 = .ok (.iconst 0, 1) := dk_3 (by decide +kernel)
theorem dX8_number_3 : decode cX8_number 3 = .ok (.istore_n 2, 1) := dk_61 (by decide +kernel)
set_option maxRecDepth 100000 in
set_option maxHeartbeats 8000000 in
theorem x_X8_number (l : Launch) (D : va_G) (y : wY) (ad : Nat → Nat) (M : Mem) (K : Mem → Prop) (h : wp_X8_number M K) : MV l D y ad yX8_number (Cond.code yX8_number cX8_number 3 none) 2 M [.ref (ad 79)] K := by
  refine MV_of (by decide) (Nat.le_of_ble_eq_true rfl) ?_
  intro p e s m args below meth c X hr hlocks
  have hL4 : ∀ (n : Nat) (i1 : Int32) (i2 : Int32) (Mb : Mem), wp_X8_number_L4 K n i1 i2 Mb → J p l e (rmN 2) s m args below meth c 0 0 (QV K D y ad M s args below) D y ad (va_A (PL y ad M) s.heap.size) 3 Mb 4 [(0, .ref (ad 79)), (1, .int i1), (2, .int i2)] [] := by
    intro n
    induction n with
    | zero => intro i1 i2 Mb h; exact False.elim h
    | succ n hB4 =>
      intro i1 i2 Mb h
      replace h : wp_X8_number_l4 K (wp_X8_number_L4 K n) i1 i2 Mb := h
      delta wp_X8_number_l4 at h
      refine j_iload_n X 2 rfl rfl dX8_number_4 ?_
      refine j_iconst X (v := 4) (by decide) dX8_number_5 ?_
      refine j_icmp_ge X 56 (by decide) dX8_number_6 (fun q_401 => ?_) (fun q_401 => ?_)
      · replace h := h.1 q_401
        refine j_aload_n X 0 rfl rfl dX8_number_56 ?_
        refine j_iload_n X 1 rfl rfl dX8_number_57 ?_
        refine j_callVV X (nn := 1) (As := [.int i1]) (st := []) (ci := 8) cl_79.1 (wE_8 _ cl_79.2) rfl aw_395 aw_396 (x_X8_adds l D y ad i1 _ _ h) aw_394 aw_397 aw_5 (by decide +kernel) ⟨Nat.le_of_ble_eq_true rfl, Nat.le_of_ble_eq_true rfl⟩ rfl (Nat.le_of_ble_eq_true rfl) ⟨Nat.le_of_ble_eq_true rfl, Nat.le_of_ble_eq_true rfl⟩ dX8_number_58 ?_
        intro M402 h
        exact j_vret X hr hlocks dX8_number_61 h
      · replace h := h.2 q_401
        refine j_aload_n X 0 rfl rfl dX8_number_9 ?_
        refine j_aload_n X 0 rfl rfl dX8_number_10 ?_
        refine j_get X cl_79.1 (wE_8 _ cl_79.2) rfl awF8 7 (by decide) aw_378 rfl (v := .int (Mb 79 7)) rfl dX8_number_11 ?_
        refine j_callVI X (nn := 1) (As := [.int (Mb 79 7)]) (st := []) (ci := 8) cl_79.1 (wE_8 _ cl_79.2) rfl aw_391 aw_392 (x_X8_byteAt l D y ad (Mb 79 7) _ _ h) aw_390 aw_393 aw_5 (by decide +kernel) ⟨Nat.le_of_ble_eq_true rfl, Nat.le_of_ble_eq_true rfl⟩ rfl (Nat.le_of_ble_eq_true rfl) ⟨Nat.le_of_ble_eq_true rfl, Nat.le_of_ble_eq_true rfl⟩ dX8_number_14 ?_
        intro r403 M403 h
        refine j_callSI X (nn := 1) (As := [.int r403]) (st := []) aw_408 (x_X8_isDigit l D y ad r403 _ _ h) aw_407 aw_409 aw_5 (by decide +kernel) ⟨Nat.le_of_ble_eq_true rfl, Nat.le_of_ble_eq_true rfl⟩ rfl (Nat.le_of_ble_eq_true rfl) ⟨Nat.le_of_ble_eq_true rfl, Nat.le_of_ble_eq_true rfl⟩ dX8_number_17 ?_
        intro r404 M404 h
        refine j_if_eq X 56 (by decide) dX8_number_20 (fun q_405 => ?_) (fun q_405 => ?_)
        · replace h := h.1 q_405
          refine j_aload_n X 0 rfl rfl dX8_number_56 ?_
          refine j_iload_n X 1 rfl rfl dX8_number_57 ?_
          refine j_callVV X (nn := 1) (As := [.int i1]) (st := []) (ci := 8) cl_79.1 (wE_8 _ cl_79.2) rfl aw_395 aw_396 (x_X8_adds l D y ad i1 _ _ h) aw_394 aw_397 aw_5 (by decide +kernel) ⟨Nat.le_of_ble_eq_true rfl, Nat.le_of_ble_eq_true rfl⟩ rfl (Nat.le_of_ble_eq_true rfl) ⟨Nat.le_of_ble_eq_true rfl, Nat.le_of_ble_eq_true rfl⟩ dX8_number_58 ?_
          intro M406 h
          exact j_vret X hr hlocks dX8_number_61 h
        · replace h := h.2 q_405
          refine j_bipush X (v := 10) (by decide) dX8_number_23 ?_
          refine j_iload_n X 1 rfl rfl dX8_number_25 ?_
          refine j_imul X dX8_number_26 ?_
          refine j_aload_n X 0 rfl rfl dX8_number_27 ?_
          refine j_aload_n X 0 rfl rfl dX8_number_28 ?_
          refine j_get X cl_79.1 (wE_8 _ cl_79.2) rfl awF8 7 (by decide) aw_378 rfl (v := .int (M404 79 7)) rfl dX8_number_29 ?_
          refine j_callVI X (nn := 1) (As := [.int (M404 79 7)]) (st := [.int (10 * i1)]) (ci := 8) cl_79.1 (wE_8 _ cl_79.2) rfl aw_391 aw_392 (x_X8_byteAt l D y ad (M404 79 7) _ _ h) aw_390 aw_393 aw_5 (by decide +kernel) ⟨Nat.le_of_ble_eq_true rfl, Nat.le_of_ble_eq_true rfl⟩ rfl (Nat.le_of_ble_eq_true rfl) ⟨Nat.le_of_ble_eq_true rfl, Nat.le_of_ble_eq_true rfl⟩ dX8_number_32 ?_
          intro r407 M407 h
          refine j_iadd X dX8_number_35 ?_
          refine j_bipush X (v := 48) (by decide) dX8_number_36 ?_
          refine j_isub X dX8_number_38 ?_
          refine j_istore_n X [(1, .int (((10 * i1) + r407) - 48)), (0, .ref (ad 79)), (2, .int i2)] rfl (by decide) rfl dX8_number_39 ?_
          refine j_aload_n X 1 rfl rfl dX8_number_40 ?_
          refine j_dup X rfl dX8_number_41 ?_
          refine j_get X cl_79.1 (wE_8 _ cl_79.2) rfl awF8 7 (by decide) aw_378 rfl (v := .int (M407 79 7)) rfl dX8_number_42 ?_
          refine j_iconst X (v := 1) (by decide) dX8_number_45 ?_
          refine j_iadd X dX8_number_46 ?_
          refine j_put X (up M407 79 7 ((M407 79 7) + 1)) up_o cl_79.1 (wE_8 _ cl_79.2) rfl awF8 7 (by decide) (wP_8_7 _ _ cl_79.2) tyX8 tyX8_ok nmX8 rfl (ty := .int) (by decide +kernel) rfl rfl (Nat.le_of_ble_eq_true rfl) aw_378 rfl dX8_number_47 ?_
          refine j_iinc X (v := (i2 + 1)) 2 [(2, .int (i2 + 1)), (1, .int (((10 * i1) + r407) - 48)), (0, .ref (ad 79))] rfl rfl (by decide) rfl dX8_number_50 ?_
          refine j_goto X 4 (by decide) dX8_number_53 ?_
          refine j_lv (lv1 := [(0, .ref (ad 79)), (1, .int (((10 * i1) + r407) - 48)), (2, .int (i2 + 1))]) [2, 1, 0] rfl ?_
          exact hB4 _ _ _ h
  delta wp_X8_number at h
  refine j_lv (lv1 := [(0, .ref (ad 79))]) [0] rfl ?_
  refine j_iconst X (v := 0) (by decide) dX8_number_0 ?_
  refine j_istore_n X [(1, .int 0), (0, .ref (ad 79))] rfl (by decide) rfl dX8_number_1 ?_
  refine j_iconst X (v := 0) (by decide) dX8_number_2 ?_
  refine j_istore_n X [(2, .int 0), (1, .int 0), (0, .ref (ad 79))] rfl (by decide) rfl dX8_number_3 ?_
  refine j_lv (lv1 := [(0, .ref (ad 79)), (1, .int 0), (2, .int 0)]) [2, 1, 0] rfl ?_
  obtain ⟨n4, h⟩ := h
  exact hL4    n4 _ _ _ h
theorem dX8_named_68 : decode cX8_named 68 = .ok (.putfield 93, 3) := dk_181 (by decide +kernel)
theorem dX8_named_71 : decode cX8_named 71 = .ok (.aload_n 0, 1) := dk_42 (by decide +kernel)
theorem dX8_named_72 : decode cX8_named 72 = .ok (.getfield 93, 3) := dk_180 (by decide +kernel)
theorem dX8_named_75 : decode cX8_named 75 = .ok (.ifCond .eq 38, 3) := dk_153 (by decide +kernel)
theorem dX8_named_113 : decode cX8_named 113 = .ok (.return_, 1) := dk_177 (by decide +kernel)
theorem dX8_named_78 : decode cX8_named 78 = .ok (.aload_n 0, 1) := dk_42 (by decide +kernel)
theorem dX8_named_79 : decode cX8_named 79 = .ok (.dup, 1) := dk_89 (by decide +kernel)
theorem dX8_named_80 : decode cX8_named 80 = .ok (.getfield 100, 3) := dk_180 (by decide +kernel)
theorem dX8_named_83 : decode cX8_named 83 = .ok (.iconst 1, 1) := dk_4 (by decide +kernel)
theorem dX8_named_84 : decode cX8_named 84 = .ok (.iadd, 1) := dk_96 (by decide +kernel)
theorem dX8_named_85 : decode cX8_named 85 = .ok (.putfield 100, 3) := dk_181 (by decide +kernel)
theorem dX8_named_88 : decode cX8_named 88 = .ok (.aload_n 0, 1) := dk_42 (by decide +kernel)
theorem dX8_named_89 : decode cX8_named 89 = .ok (.sipush 10000, 3) := dk_17 (by decide +kernel)
theorem dX8_named_92 : decode cX8_named 92 = .ok (.iload_n 2, 1) := dk_28 (by decide +kernel)
theorem dX8_named_93 : decode cX8_named 93 = .ok (.ifCond .eq 7, 3) := dk_153 (by decide +kernel)
theorem dX8_named_100 : decode cX8_named 100 = .ok (.iload_n 3, 1) := dk_29 (by decide +kernel)
theorem dX8_named_101 : decode cX8_named 101 = .ok (.ifCond .eq 7, 3) := dk_153 (by decide +kernel)
theorem dX8_named_108 : decode cX8_named 108 = .ok (.iconst 2, 1) := dk_5 (by decide +kernel)
theorem dX8_named_109 : decode cX8_named 109 = .ok (.iadd, 1) := dk_96 (by decide +kernel)
theorem dX8_named_110 : decode cX8_named 110 = .ok (.invokevirtual 109, 3) := dk_182 (by decide +kernel)
theorem dX8_named_104 : decode cX8_named 104 = .ok (.iconst 1, 1) := dk_4 (by decide +kernel)
theorem dX8_named_105 : decode cX8_named 105 = .ok (.goto 4, 3) := dk_167 (by decide +kernel)
theorem dX8_named_96 : decode cX8_named 96 = .ok (.iconst 0, 1) := dk_3 (by decide +kernel)
theorem dX8_named_97 : decode cX8_named 97 = .ok (.goto 12, 3) := dk_167 (by decide +kernel)
theorem dX8_named_39 : decode cX8_named 39 = .ok (.if_icmp .ne 7, 3) := dk_160 (by decide +kernel)
theorem dX8_named_46 : decode cX8_named 46 = .ok (.iconst 0, 1) := dk_3 (by decide +kernel)
theorem dX8_named_47 : decode cX8_named 47 = .ok (.istore 4, 2) := dk_54 (by decide +kernel)
theorem dX8_named_49 : decode cX8_named 49 = .ok (.aload_n 0, 1) := dk_42 (by decide +kernel)
theorem dX8_named_50 : decode cX8_named 50 = .ok (.iload_n 2, 1) := dk_28 (by decide +kernel)
theorem dX8_named_51 : decode cX8_named 51 = .ok (.ifCond .ne 12, 3) := dk_154 (by decide +kernel)
theorem dX8_named_63 : decode cX8_named 63 = .ok (.iconst 1, 1) := dk_4 (by decide +kernel)
theorem dX8_named_64 : decode cX8_named 64 = .ok (.goto 4, 3) := dk_167 (by decide +kernel)
theorem dX8_named_54 : decode cX8_named 54 = .ok (.iload_n 3, 1) := dk_29 (by decide +kernel)
theorem dX8_named_55 : decode cX8_named 55 = .ok (.ifCond .ne 8, 3) := dk_154 (by decide +kernel)
theorem dX8_named_58 : decode cX8_named 58 = .ok (.iload 4, 2) := dk_21 (by decide +kernel)
theorem dX8_named_60 : decode cX8_named 60 = .ok (.ifCond .eq 7, 3) := dk_153 (by decide +kernel)
theorem dX8_named_67 : decode cX8_named 67 = .ok (.iconst 0, 1) := dk_3 (by decide +kernel)
theorem dX8_named_42 : decode cX8_named 42 = .ok (.iconst 1, 1) := dk_4 (by decide +kernel)
theorem dX8_named_43 : decode cX8_named 43 = .ok (.goto 4, 3) := dk_167 (by decide +kernel)
theorem dX8_named_11 : decode cX8_named 11 = .ok (.istore_n 2, 1) := dk_61 (by decide +kernel)
theorem dX8_named_12 : decode cX8_named 12 = .ok (.iload_n 1, 1) := dk_27 (by decide +kernel)
theorem dX8_named_13 : decode cX8_named 13 = .ok (.bipush 97, 2) := dk_16 (by decide +kernel)
theorem dX8_named_15 : decode cX8_named 15 = .ok (.if_icmp .ne 7, 3) := dk_160 (by decide +kernel)
theorem dX8_named_22 : decode cX8_named 22 = .ok (.iconst 0, 1) := dk_3 (by decide +kernel)
theorem dX8_named_23 : decode cX8_named 23 = .ok (.istore_n 3, 1) := dk_62 (by decide +kernel)
theorem dX8_named_24 : decode cX8_named 24 = .ok (.iload_n 1, 1) := dk_27 (by decide +kernel)
theorem dX8_named_25 : decode cX8_named 25 = .ok (.aload_n 0, 1) := dk_42 (by decide +kernel)
theorem dX8_named_26 : decode cX8_named 26 = .ok (.getfield 113, 3) := dk_180 (by decide +kernel)
theorem dX8_named_29 : decode cX8_named 29 = .ok (.ifCond .ne 8, 3) := dk_154 (by decide +kernel)
theorem dX8_named_37 : decode cX8_named 37 = .ok (.bipush 109, 2) := dk_16 (by decide +kernel)
theorem dX8_named_32 : decode cX8_named 32 = .ok (.bipush 100, 2) := dk_16 (by decide +kernel)
theorem dX8_named_34 : decode cX8_named 34 = .ok (.goto 5, 3) := dk_167 (by decide +kernel)
theorem dX8_named_18 : decode cX8_named 18 = .ok (.iconst 1, 1) := dk_4 (by decide +kernel)
theorem dX8_named_19 : decode cX8_named 19 = .ok (.goto 4, 3) := dk_167 (by decide +kernel)
theorem dX8_named_0 : decode cX8_named 0 = .ok (.iload_n 1, 1) := dk_27 (by decide +kernel)
theorem dX8_named_1 : decode cX8_named 1 = .ok (.bipush 101, 2) := dk_16 (by decide +kernel)
theorem dX8_named_3 : decode cX8_named 3 = .ok (.if_icmp .ne 7, 3) := dk_160 (by decide +kernel)
theorem dX8_named_10 : decode cX8_named 10 = .ok (.iconst 0, 1) := dk_3 (by decide +kernel)
theorem dX8_named_6 : decode cX8_named 6 = .ok (.iconst 1, 1) := dk_4 (by decide +kernel)
theorem dX8_named_7 : decode cX8_named 7 = .ok (.goto 4, 3) := dk_167 (by decide +kernel)
set_option maxRecDepth 100000 in
set_option maxHeartbeats 8000000 in
theorem x_X8_named (l : Launch) (D : va_G) (y : wY) (ad : Nat → Nat) (i1 : Int32) (M : Mem) (K : Mem → Prop) (h : wp_X8_named i1 M K) : MV l D y ad yX8_named (Cond.code yX8_named cX8_named 5 none) 1 M [.ref (ad 79), .int i1] K := by
  refine MV_of (by decide) (Nat.le_of_ble_eq_true rfl) ?_
  intro p e s m args below meth c X hr hlocks
  have hb68 : ∀ (i2 : Int32) (i3 : Int32) (t0 : Int32) (Mb : Mem), wp_X8_named_b68 K i2 i3 t0 Mb → J p l e (rmN 1) s m args below meth c 0 0 (QV K D y ad M s args below) D y ad (va_A (PL y ad M) s.heap.size) 5 Mb 68 [(0, .ref (ad 79)), (2, .int i2), (3, .int i3)] [.int t0, .ref (ad 79)] := by
    intro i2 i3 t0 Mb h
    delta wp_X8_named_b68 at h
    obtain ⟨hb_6801, h⟩ := h
    refine j_put X (up Mb 79 11 t0) up_o cl_79.1 (wE_8 _ cl_79.2) rfl awF8 11 (by decide) (wP_8_11 _ _ cl_79.2) tyX8 tyX8_ok nmX8 rfl (ty := .boolean) (by decide +kernel) (nar_bool hb_6801) (fit_bool hb_6801) (Nat.le_of_ble_eq_true rfl) aw_382 rfl dX8_named_68 ?_
    refine j_aload_n X 0 rfl rfl dX8_named_71 ?_
    refine j_get X cl_79.1 (wE_8 _ cl_79.2) rfl awF8 11 (by decide) aw_382 rfl (v := .int ((up Mb 79 11 t0) 79 11)) rfl dX8_named_72 ?_
    refine j_if_eq X 113 (by decide) dX8_named_75 (fun q_6802 => ?_) (fun q_6802 => ?_)
    · replace h := h.1 q_6802
      exact j_vret X hr hlocks dX8_named_113 h
    · replace h := h.2 q_6802
      refine j_aload_n X 0 rfl rfl dX8_named_78 ?_
      refine j_dup X rfl dX8_named_79 ?_
      refine j_get X cl_79.1 (wE_8 _ cl_79.2) rfl awF8 7 (by decide) aw_378 rfl (v := .int ((up Mb 79 11 t0) 79 7)) rfl dX8_named_80 ?_
      refine j_iconst X (v := 1) (by decide) dX8_named_83 ?_
      refine j_iadd X dX8_named_84 ?_
      refine j_put X (up (up Mb 79 11 t0) 79 7 (((up Mb 79 11 t0) 79 7) + 1)) up_o cl_79.1 (wE_8 _ cl_79.2) rfl awF8 7 (by decide) (wP_8_7 _ _ cl_79.2) tyX8 tyX8_ok nmX8 rfl (ty := .int) (by decide +kernel) rfl rfl (Nat.le_of_ble_eq_true rfl) aw_378 rfl dX8_named_85 ?_
      refine j_aload_n X 0 rfl rfl dX8_named_88 ?_
      refine j_sipush X (v := 10000) (by decide) dX8_named_89 ?_
      refine j_iload_n X 1 rfl rfl dX8_named_92 ?_
      refine j_if_eq X 100 (by decide) dX8_named_93 (fun q_6803 => ?_) (fun q_6803 => ?_)
      · replace h := h.1 q_6803
        refine j_iload_n X 2 rfl rfl dX8_named_100 ?_
        refine j_if_eq X 108 (by decide) dX8_named_101 (fun q_6804 => ?_) (fun q_6804 => ?_)
        · replace h := h.1 q_6804
          refine j_iconst X (v := 2) (by decide) dX8_named_108 ?_
          refine j_iadd X dX8_named_109 ?_
          refine j_eqi (v := 10002) (by decide) ?_
          refine j_callVV X (nn := 1) (As := [.int 10002]) (st := []) (ci := 8) cl_79.1 (wE_8 _ cl_79.2) rfl aw_395 aw_396 (x_X8_adds l D y ad 10002 _ _ h) aw_394 aw_397 aw_5 (by decide +kernel) ⟨Nat.le_of_ble_eq_true rfl, Nat.le_of_ble_eq_true rfl⟩ rfl (Nat.le_of_ble_eq_true rfl) ⟨Nat.le_of_ble_eq_true rfl, Nat.le_of_ble_eq_true rfl⟩ dX8_named_110 ?_
          intro M6805 h
          exact j_vret X hr hlocks dX8_named_113 h
        · replace h := h.2 q_6804
          refine j_iconst X (v := 1) (by decide) dX8_named_104 ?_
          refine j_goto X 109 (by decide) dX8_named_105 ?_
          refine j_iadd X dX8_named_109 ?_
          refine j_eqi (v := 10001) (by decide) ?_
          refine j_callVV X (nn := 1) (As := [.int 10001]) (st := []) (ci := 8) cl_79.1 (wE_8 _ cl_79.2) rfl aw_395 aw_396 (x_X8_adds l D y ad 10001 _ _ h) aw_394 aw_397 aw_5 (by decide +kernel) ⟨Nat.le_of_ble_eq_true rfl, Nat.le_of_ble_eq_true rfl⟩ rfl (Nat.le_of_ble_eq_true rfl) ⟨Nat.le_of_ble_eq_true rfl, Nat.le_of_ble_eq_true rfl⟩ dX8_named_110 ?_
          intro M6806 h
          exact j_vret X hr hlocks dX8_named_113 h
      · replace h := h.2 q_6803
        refine j_iconst X (v := 0) (by decide) dX8_named_96 ?_
        refine j_goto X 109 (by decide) dX8_named_97 ?_
        refine j_iadd X dX8_named_109 ?_
        refine j_eqi (v := 10000) (by decide) ?_
        refine j_callVV X (nn := 1) (As := [.int 10000]) (st := []) (ci := 8) cl_79.1 (wE_8 _ cl_79.2) rfl aw_395 aw_396 (x_X8_adds l D y ad 10000 _ _ h) aw_394 aw_397 aw_5 (by decide +kernel) ⟨Nat.le_of_ble_eq_true rfl, Nat.le_of_ble_eq_true rfl⟩ rfl (Nat.le_of_ble_eq_true rfl) ⟨Nat.le_of_ble_eq_true rfl, Nat.le_of_ble_eq_true rfl⟩ dX8_named_110 ?_
        intro M6807 h
        exact j_vret X hr hlocks dX8_named_113 h
  have hb39 : ∀ (i2 : Int32) (i3 : Int32) (t0 : Int32) (t1 : Int32) (Mb : Mem), wp_X8_named_b39 K i2 i3 t0 t1 Mb → J p l e (rmN 1) s m args below meth c 0 0 (QV K D y ad M s args below) D y ad (va_A (PL y ad M) s.heap.size) 5 Mb 39 [(0, .ref (ad 79)), (2, .int i2), (3, .int i3)] [.int t0, .int t1] := by
    intro i2 i3 t0 t1 Mb h
    delta wp_X8_named_b39 at h
    refine j_icmp_ne X 46 (by decide) dX8_named_39 (fun q_3901 => ?_) (fun q_3901 => ?_)
    · replace h := h.1 q_3901
      refine j_iconst X (v := 0) (by decide) dX8_named_46 ?_
      refine j_istore X [(4, .int 0), (0, .ref (ad 79)), (2, .int i2), (3, .int i3)] (by decide) rfl dX8_named_47 ?_
      refine j_aload_n X 1 rfl rfl dX8_named_49 ?_
      refine j_iload_n X 2 rfl rfl dX8_named_50 ?_
      refine j_if_ne X 63 (by decide) dX8_named_51 (fun q_3902 => ?_) (fun q_3902 => ?_)
      · replace h := h.1 q_3902
        refine j_iconst X (v := 1) (by decide) dX8_named_63 ?_
        refine j_goto X 68 (by decide) dX8_named_64 ?_
        refine j_lv (lv1 := [(0, .ref (ad 79)), (2, .int i2), (3, .int i3)]) [1, 2, 3] rfl ?_
        exact hb68 _ _ _  _ h
      · replace h := h.2 q_3902
        refine j_iload_n X 3 rfl rfl dX8_named_54 ?_
        refine j_if_ne X 63 (by decide) dX8_named_55 (fun q_3903 => ?_) (fun q_3903 => ?_)
        · replace h := h.1 q_3903
          refine j_iconst X (v := 1) (by decide) dX8_named_63 ?_
          refine j_goto X 68 (by decide) dX8_named_64 ?_
          refine j_lv (lv1 := [(0, .ref (ad 79)), (2, .int i2), (3, .int i3)]) [1, 2, 3] rfl ?_
          exact hb68 _ _ _  _ h
        · replace h := h.2 q_3903
          refine j_iload X 0 rfl dX8_named_58 ?_
          refine j_if_eq X 67 (by decide) dX8_named_60 (fun _ => ?_) (fun q_3904 => False.elim (by revert q_3904; decide))
          refine j_iconst X (v := 0) (by decide) dX8_named_67 ?_
          refine j_lv (lv1 := [(0, .ref (ad 79)), (2, .int i2), (3, .int i3)]) [1, 2, 3] rfl ?_
          exact hb68 _ _ _  _ h
    · replace h := h.2 q_3901
      refine j_iconst X (v := 1) (by decide) dX8_named_42 ?_
      refine j_goto X 47 (by decide) dX8_named_43 ?_
      refine j_istore X [(4, .int 1), (0, .ref (ad 79)), (2, .int i2), (3, .int i3)] (by decide) rfl dX8_named_47 ?_
      refine j_aload_n X 1 rfl rfl dX8_named_49 ?_
      refine j_iload_n X 2 rfl rfl dX8_named_50 ?_
      refine j_if_ne X 63 (by decide) dX8_named_51 (fun q_3905 => ?_) (fun q_3905 => ?_)
      · replace h := h.1 q_3905
        refine j_iconst X (v := 1) (by decide) dX8_named_63 ?_
        refine j_goto X 68 (by decide) dX8_named_64 ?_
        refine j_lv (lv1 := [(0, .ref (ad 79)), (2, .int i2), (3, .int i3)]) [1, 2, 3] rfl ?_
        exact hb68 _ _ _  _ h
      · replace h := h.2 q_3905
        refine j_iload_n X 3 rfl rfl dX8_named_54 ?_
        refine j_if_ne X 63 (by decide) dX8_named_55 (fun q_3906 => ?_) (fun q_3906 => ?_)
        · replace h := h.1 q_3906
          refine j_iconst X (v := 1) (by decide) dX8_named_63 ?_
          refine j_goto X 68 (by decide) dX8_named_64 ?_
          refine j_lv (lv1 := [(0, .ref (ad 79)), (2, .int i2), (3, .int i3)]) [1, 2, 3] rfl ?_
          exact hb68 _ _ _  _ h
        · replace h := h.2 q_3906
          refine j_iload X 0 rfl dX8_named_58 ?_
          refine j_if_eq X 67 (by decide) dX8_named_60 (fun q_3907 => False.elim (by revert q_3907; decide)) (fun _ => ?_)
          refine j_iconst X (v := 1) (by decide) dX8_named_63 ?_
          refine j_goto X 68 (by decide) dX8_named_64 ?_
          refine j_lv (lv1 := [(0, .ref (ad 79)), (2, .int i2), (3, .int i3)]) [1, 2, 3] rfl ?_
          exact hb68 _ _ _  _ h
  have hb11 : ∀ (i1 : Int32) (t0 : Int32) (Mb : Mem), wp_X8_named_b11 K i1 t0 Mb → J p l e (rmN 1) s m args below meth c 0 0 (QV K D y ad M s args below) D y ad (va_A (PL y ad M) s.heap.size) 5 Mb 11 [(0, .ref (ad 79)), (1, .int i1)] [.int t0] := by
    intro i1 t0 Mb h
    delta wp_X8_named_b11 at h
    refine j_istore_n X [(2, .int t0), (0, .ref (ad 79)), (1, .int i1)] rfl (by decide) rfl dX8_named_11 ?_
    refine j_iload_n X 2 rfl rfl dX8_named_12 ?_
    refine j_bipush X (v := 97) (by decide) dX8_named_13 ?_
    refine j_icmp_ne X 22 (by decide) dX8_named_15 (fun q_1101 => ?_) (fun q_1101 => ?_)
    · replace h := h.1 q_1101
      refine j_iconst X (v := 0) (by decide) dX8_named_22 ?_
      refine j_istore_n X [(3, .int 0), (2, .int t0), (0, .ref (ad 79)), (1, .int i1)] rfl (by decide) rfl dX8_named_23 ?_
      refine j_iload_n X 3 rfl rfl dX8_named_24 ?_
      refine j_aload_n X 2 rfl rfl dX8_named_25 ?_
      refine j_get X cl_79.1 (wE_8 _ cl_79.2) rfl awF8 6 (by decide) aw_377 rfl (v := .int (Mb 79 6)) rfl dX8_named_26 ?_
      refine j_if_ne X 37 (by decide) dX8_named_29 (fun q_1102 => ?_) (fun q_1102 => ?_)
      · replace h := h.1 q_1102
        refine j_bipush X (v := 109) (by decide) dX8_named_37 ?_
        refine j_lv (lv1 := [(0, .ref (ad 79)), (2, .int t0), (3, .int 0)]) [2, 1, 0] rfl ?_
        exact hb39 _ _ _ _  _ h
      · replace h := h.2 q_1102
        refine j_bipush X (v := 100) (by decide) dX8_named_32 ?_
        refine j_goto X 39 (by decide) dX8_named_34 ?_
        refine j_lv (lv1 := [(0, .ref (ad 79)), (2, .int t0), (3, .int 0)]) [2, 1, 0] rfl ?_
        exact hb39 _ _ _ _  _ h
    · replace h := h.2 q_1101
      refine j_iconst X (v := 1) (by decide) dX8_named_18 ?_
      refine j_goto X 23 (by decide) dX8_named_19 ?_
      refine j_istore_n X [(3, .int 1), (2, .int t0), (0, .ref (ad 79)), (1, .int i1)] rfl (by decide) rfl dX8_named_23 ?_
      refine j_iload_n X 3 rfl rfl dX8_named_24 ?_
      refine j_aload_n X 2 rfl rfl dX8_named_25 ?_
      refine j_get X cl_79.1 (wE_8 _ cl_79.2) rfl awF8 6 (by decide) aw_377 rfl (v := .int (Mb 79 6)) rfl dX8_named_26 ?_
      refine j_if_ne X 37 (by decide) dX8_named_29 (fun q_1103 => ?_) (fun q_1103 => ?_)
      · replace h := h.1 q_1103
        refine j_bipush X (v := 109) (by decide) dX8_named_37 ?_
        refine j_lv (lv1 := [(0, .ref (ad 79)), (2, .int t0), (3, .int 1)]) [2, 1, 0] rfl ?_
        exact hb39 _ _ _ _  _ h
      · replace h := h.2 q_1103
        refine j_bipush X (v := 100) (by decide) dX8_named_32 ?_
        refine j_goto X 39 (by decide) dX8_named_34 ?_
        refine j_lv (lv1 := [(0, .ref (ad 79)), (2, .int t0), (3, .int 1)]) [2, 1, 0] rfl ?_
        exact hb39 _ _ _ _  _ h
  delta wp_X8_named at h
  refine j_lv (lv1 := [(0, .ref (ad 79)), (1, .int i1)]) [0, 1] rfl ?_
  refine j_iload_n X 1 rfl rfl dX8_named_0 ?_
  refine j_bipush X (v := 101) (by decide) dX8_named_1 ?_
  refine j_icmp_ne X 10 (by decide) dX8_named_3 (fun q_1 => ?_) (fun q_1 => ?_)
  · replace h := h.1 q_1
    refine j_iconst X (v := 0) (by decide) dX8_named_10 ?_
    refine j_lv (lv1 := [(0, .ref (ad 79)), (1, .int i1)]) [0, 1] rfl ?_
    exact hb11 _ _  _ h
  · replace h := h.2 q_1
    refine j_iconst X (v := 1) (by decide) dX8_named_6 ?_
    refine j_goto X 11 (by decide) dX8_named_7 ?_
    refine j_lv (lv1 := [(0, .ref (ad 79)), (1, .int i1)]) [0, 1] rfl ?_
    exact hb11 _ _  _ h
