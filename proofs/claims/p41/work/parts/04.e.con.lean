theorem dX7_quarrel_0 : decode cX7_quarrel 0 = .ok (.aload_n 0, 1) := dk_42 (by decide +kernel)
theorem dX7_quarrel_1 : decode cX7_quarrel 1 = .ok (.getfield 12, 3) := dk_180 (by decide +kernel)
theorem dX7_quarrel_4 : decode cX7_quarrel 4 = .ok (.getfield 72, 3) := dk_180 (by decide +kernel)
theorem dX7_quarrel_7 : decode cX7_quarrel 7 = .ok (.astore 5, 2) := dk_58 (by decide +kernel)
theorem dX7_quarrel_9 : decode cX7_quarrel 9 = .ok (.iload_n 1, 1) := dk_27 (by decide +kernel)
theorem dX7_quarrel_10 : decode cX7_quarrel 10 = .ok (.invokestatic 82, 3) := dk_184 (by decide +kernel)
theorem dX7_quarrel_13 : decode cX7_quarrel 13 = .ok (.ifCond .eq 39, 3) := dk_153 (by decide +kernel)
theorem dX7_quarrel_52 : decode cX7_quarrel 52 = .ok (.aload_n 0, 1) := dk_42 (by decide +kernel)
theorem dX7_quarrel_53 : decode cX7_quarrel 53 = .ok (.ldc 68, 2) := dk_18 (by decide +kernel)
theorem dX7_quarrel_55 : decode cX7_quarrel 55 = .ok (.invokevirtual 69, 3) := dk_182 (by decide +kernel)
theorem dX7_quarrel_58 : decode cX7_quarrel 58 = .ok (.ireturn, 1) := dk_172 (by decide +kernel)
theorem dX7_quarrel_16 : decode cX7_quarrel 16 = .ok (.iload_n 2, 1) := dk_28 (by decide +kernel)
theorem dX7_quarrel_17 : decode cX7_quarrel 17 = .ok (.iconst 0, 1) := dk_3 (by decide +kernel)
theorem dX7_quarrel_18 : decode cX7_quarrel 18 = .ok (.bipush 9, 2) := dk_16 (by decide +kernel)
theorem dX7_quarrel_20 : decode cX7_quarrel 20 = .ok (.invokestatic 60, 3) := dk_184 (by decide +kernel)
theorem dX7_quarrel_23 : decode cX7_quarrel 23 = .ok (.ifCond .eq 29, 3) := dk_153 (by decide +kernel)
theorem dX7_quarrel_26 : decode cX7_quarrel 26 = .ok (.iload_n 3, 1) := dk_29 (by decide +kernel)
theorem dX7_quarrel_27 : decode cX7_quarrel 27 = .ok (.iconst 0, 1) := dk_3 (by decide +kernel)
theorem dX7_quarrel_28 : decode cX7_quarrel 28 = .ok (.bipush 99, 2) := dk_16 (by decide +kernel)
theorem dX7_quarrel_30 : decode cX7_quarrel 30 = .ok (.invokestatic 60, 3) := dk_184 (by decide +kernel)
theorem dX7_quarrel_33 : decode cX7_quarrel 33 = .ok (.ifCond .eq 19, 3) := dk_153 (by decide +kernel)
theorem dX7_quarrel_36 : decode cX7_quarrel 36 = .ok (.iload 4, 2) := dk_21 (by decide +kernel)
theorem dX7_quarrel_38 : decode cX7_quarrel 38 = .ok (.iconst (-1), 1) := dk_2 (by decide +kernel)
theorem dX7_quarrel_39 : decode cX7_quarrel 39 = .ok (.aload 5, 2) := dk_25 (by decide +kernel)
theorem dX7_quarrel_41 : decode cX7_quarrel 41 = .ok (.getfield 86, 3) := dk_180 (by decide +kernel)
theorem dX7_quarrel_44 : decode cX7_quarrel 44 = .ok (.iconst 1, 1) := dk_4 (by decide +kernel)
theorem dX7_quarrel_45 : decode cX7_quarrel 45 = .ok (.isub, 1) := dk_100 (by decide +kernel)
theorem dX7_quarrel_46 : decode cX7_quarrel 46 = .ok (.invokestatic 60, 3) := dk_184 (by decide +kernel)
theorem dX7_quarrel_49 : decode cX7_quarrel 49 = .ok (.ifCond .ne 10, 3) := dk_154 (by decide +kernel)
theorem dX7_quarrel_59 : decode cX7_quarrel 59 = .ok (.aload 5, 2) := dk_25 (by decide +kernel)
theorem dX7_quarrel_61 : decode cX7_quarrel 61 = .ok (.getfield 86, 3) := dk_180 (by decide +kernel)
theorem dX7_quarrel_64 : decode cX7_quarrel 64 = .ok (.bipush 9, 2) := dk_16 (by decide +kernel)
theorem dX7_quarrel_66 : decode cX7_quarrel 66 = .ok (.if_icmp .lt 10, 3) := dk_161 (by decide +kernel)
theorem dX7_quarrel_76 : decode cX7_quarrel 76 = .ok (.aload 5, 2) := dk_25 (by decide +kernel)
theorem dX7_quarrel_78 : decode cX7_quarrel 78 = .ok (.getfield 91, 3) := dk_180 (by decide +kernel)
theorem dX7_quarrel_81 : decode cX7_quarrel 81 = .ok (.aload 5, 2) := dk_25 (by decide +kernel)
theorem dX7_quarrel_83 : decode cX7_quarrel 83 = .ok (.getfield 86, 3) := dk_180 (by decide +kernel)
theorem dX7_quarrel_86 : decode cX7_quarrel 86 = .ok (.aaload, 1) := dk_50 (by decide +kernel)
theorem dX7_quarrel_87 : decode cX7_quarrel 87 = .ok (.astore 6, 2) := dk_58 (by decide +kernel)
theorem dX7_quarrel_89 : decode cX7_quarrel 89 = .ok (.aload 6, 2) := dk_25 (by decide +kernel)
theorem dX7_quarrel_91 : decode cX7_quarrel 91 = .ok (.iload_n 1, 1) := dk_27 (by decide +kernel)
theorem dX7_quarrel_92 : decode cX7_quarrel 92 = .ok (.invokevirtual 95, 3) := dk_182 (by decide +kernel)
theorem dX7_quarrel_95 : decode cX7_quarrel 95 = .ok (.aload 6, 2) := dk_25 (by decide +kernel)
theorem dX7_quarrel_97 : decode cX7_quarrel 97 = .ok (.iload_n 2, 1) := dk_28 (by decide +kernel)
theorem dX7_quarrel_98 : decode cX7_quarrel 98 = .ok (.putfield 101, 3) := dk_181 (by decide +kernel)
theorem dX7_quarrel_101 : decode cX7_quarrel 101 = .ok (.aload 6, 2) := dk_25 (by decide +kernel)
theorem dX7_quarrel_103 : decode cX7_quarrel 103 = .ok (.iload_n 3, 1) := dk_29 (by decide +kernel)
theorem dX7_quarrel_104 : decode cX7_quarrel 104 = .ok (.putfield 104, 3) := dk_181 (by decide +kernel)
theorem dX7_quarrel_107 : decode cX7_quarrel 107 = .ok (.aload 6, 2) := dk_25 (by decide +kernel)
theorem dX7_quarrel_109 : decode cX7_quarrel 109 = .ok (.iload 4, 2) := dk_21 (by decide +kernel)
theorem dX7_quarrel_111 : decode cX7_quarrel 111 = .ok (.putfield 107, 3) := dk_181 (by decide +kernel)
theorem dX7_quarrel_114 : decode cX7_quarrel 114 = .ok (.aload 6, 2) := dk_25 (by decide +kernel)
theorem dX7_quarrel_116 : decode cX7_quarrel 116 = .ok (.iconst 0, 1) := dk_3 (by decide +kernel)
theorem dX7_quarrel_117 : decode cX7_quarrel 117 = .ok (.putfield 110, 3) := dk_181 (by decide +kernel)
theorem dX7_quarrel_120 : decode cX7_quarrel 120 = .ok (.aload 6, 2) := dk_25 (by decide +kernel)
theorem dX7_quarrel_122 : decode cX7_quarrel 122 = .ok (.iconst 0, 1) := dk_3 (by decide +kernel)
theorem dX7_quarrel_123 : decode cX7_quarrel 123 = .ok (.putfield 114, 3) := dk_181 (by decide +kernel)
theorem dX7_quarrel_126 : decode cX7_quarrel 126 = .ok (.aload 5, 2) := dk_25 (by decide +kernel)
theorem dX7_quarrel_128 : decode cX7_quarrel 128 = .ok (.dup, 1) := dk_89 (by decide +kernel)
theorem dX7_quarrel_129 : decode cX7_quarrel 129 = .ok (.getfield 86, 3) := dk_180 (by decide +kernel)
theorem dX7_quarrel_132 : decode cX7_quarrel 132 = .ok (.iconst 1, 1) := dk_4 (by decide +kernel)
theorem dX7_quarrel_133 : decode cX7_quarrel 133 = .ok (.iadd, 1) := dk_96 (by decide +kernel)
theorem dX7_quarrel_134 : decode cX7_quarrel 134 = .ok (.putfield 86, 3) := dk_181 (by decide +kernel)
theorem dX7_quarrel_137 : decode cX7_quarrel 137 = .ok (.aload 5, 2) := dk_25 (by decide +kernel)
theorem dX7_quarrel_139 : decode cX7_quarrel 139 = .ok (.getfield 86, 3) := dk_180 (by decide +kernel)
theorem dX7_quarrel_142 : decode cX7_quarrel 142 = .ok (.iconst 1, 1) := dk_4 (by decide +kernel)
theorem dX7_quarrel_143 : decode cX7_quarrel 143 = .ok (.isub, 1) := dk_100 (by decide +kernel)
theorem dX7_quarrel_144 : decode cX7_quarrel 144 = .ok (.ireturn, 1) := dk_172 (by decide +kernel)
theorem dX7_quarrel_69 : decode cX7_quarrel 69 = .ok (.aload_n 0, 1) := dk_42 (by decide +kernel)
theorem dX7_quarrel_70 : decode cX7_quarrel 70 = .ok (.ldc 90, 2) := dk_18 (by decide +kernel)
theorem dX7_quarrel_72 : decode cX7_quarrel 72 = .ok (.invokevirtual 69, 3) := dk_182 (by decide +kernel)
theorem dX7_quarrel_75 : decode cX7_quarrel 75 = .ok (.ireturn, 1) := dk_172 (by decide +kernel)
set_option maxRecDepth 100000 in
set_option maxHeartbeats 8000000 in
theorem x_X7_quarrel (l : Launch) (D : va_G) (y : wY) (ad : Nat → Nat) (i1 : Int32) (i2 : Int32) (i3 : Int32) (i4 : Int32) (M : Mem) (K : Int32 → Mem → Prop) (h : wp_X7_quarrel i1 i2 i3 i4 M K) : MI l D y ad yX7_quarrel (Cond.code yX7_quarrel cX7_quarrel 7 (some .int)) 2 M [.ref (ad 0), .int i1, .int i2, .int i3, .int i4] K := by
  refine MI_of (by decide) (Nat.le_of_ble_eq_true rfl) ?_
  intro p e s m args below meth c X hr hlocks
  delta wp_X7_quarrel at h
  refine j_lv (lv1 := [(0, .ref (ad 0)), (1, .int i1), (2, .int i2), (3, .int i3), (4, .int i4)]) [0, 1, 2, 3, 4] rfl ?_
  refine j_aload_n X 0 rfl rfl dX7_quarrel_0 ?_
  refine j_get X cl_0.1 (wE_7 _ cl_0.2) rfl awF7 0 (by decide) aw_16 rfl (v := .ref (ad 1)) rfl dX7_quarrel_1 ?_
  refine j_getN X cl_1.1 (wE_6 _ cl_1.2) rfl awF6 2 (by decide) (List.mem_of_getElem? (i := 23) rfl) rfl (v := .ref (ad 12)) rfl dX7_quarrel_4 ?_
  refine j_astore X [(5, .ref (ad 12)), (0, .ref (ad 0)), (1, .int i1), (2, .int i2), (3, .int i3), (4, .int i4)] (by decide) rfl dX7_quarrel_7 ?_
  refine j_iload_n X 2 rfl rfl dX7_quarrel_9 ?_
  refine j_callSI X (nn := 1) (As := [.int i1]) (st := []) aw_170 (x_X7_isKindAndM l D y ad i1 _ _ h) aw_169 aw_171 aw_2 (by decide +kernel) ⟨Nat.le_of_ble_eq_true rfl, Nat.le_of_ble_eq_true rfl⟩ rfl (Nat.le_of_ble_eq_true rfl) ⟨Nat.le_of_ble_eq_true rfl, Nat.le_of_ble_eq_true rfl⟩ dX7_quarrel_10 ?_
  intro r1 M1 h
  refine j_if_eq X 52 (by decide) dX7_quarrel_13 (fun q_2 => ?_) (fun q_2 => ?_)
  · replace h := h.1 q_2
    refine j_aload_n X 1 rfl rfl dX7_quarrel_52 ?_
    refine j_ldc X (v := (-1000000001)) aw_108 dX7_quarrel_53 ?_
    refine j_callVI X (nn := 1) (As := [.int (-1000000001)]) (st := []) (ci := 7) cl_0.1 (wE_7 _ cl_0.2) rfl aw_117 aw_118 (x_X7_refuse l D y ad (-1000000001) _ _ h) aw_116 aw_119 aw_2 (by decide +kernel) ⟨Nat.le_of_ble_eq_true rfl, Nat.le_of_ble_eq_true rfl⟩ rfl (Nat.le_of_ble_eq_true rfl) ⟨Nat.le_of_ble_eq_true rfl, Nat.le_of_ble_eq_true rfl⟩ dX7_quarrel_55 ?_
    intro r3 M3 h
    exact j_iret X hr hlocks dX7_quarrel_58 h
  · replace h := h.2 q_2
    refine j_iload_n X 3 rfl rfl dX7_quarrel_16 ?_
    refine j_iconst X (v := 0) (by decide) dX7_quarrel_17 ?_
    refine j_bipush X (v := 9) (by decide) dX7_quarrel_18 ?_
    refine j_callSI X (nn := 3) (As := [.int i2, .int 0, .int 9]) (st := []) aw_110 (x_X7_isWithin l D y ad i2 0 9 _ _ h) aw_109 aw_111 aw_2 (by decide +kernel) ⟨Nat.le_of_ble_eq_true rfl, Nat.le_of_ble_eq_true rfl⟩ rfl (Nat.le_of_ble_eq_true rfl) ⟨Nat.le_of_ble_eq_true rfl, Nat.le_of_ble_eq_true rfl⟩ dX7_quarrel_20 ?_
    intro r4 M4 h
    refine j_if_eq X 52 (by decide) dX7_quarrel_23 (fun q_5 => ?_) (fun q_5 => ?_)
    · replace h := h.1 q_5
      refine j_aload_n X 1 rfl rfl dX7_quarrel_52 ?_
      refine j_ldc X (v := (-1000000001)) aw_108 dX7_quarrel_53 ?_
      refine j_callVI X (nn := 1) (As := [.int (-1000000001)]) (st := []) (ci := 7) cl_0.1 (wE_7 _ cl_0.2) rfl aw_117 aw_118 (x_X7_refuse l D y ad (-1000000001) _ _ h) aw_116 aw_119 aw_2 (by decide +kernel) ⟨Nat.le_of_ble_eq_true rfl, Nat.le_of_ble_eq_true rfl⟩ rfl (Nat.le_of_ble_eq_true rfl) ⟨Nat.le_of_ble_eq_true rfl, Nat.le_of_ble_eq_true rfl⟩ dX7_quarrel_55 ?_
      intro r6 M6 h
      exact j_iret X hr hlocks dX7_quarrel_58 h
    · replace h := h.2 q_5
      refine j_iload_n X 4 rfl rfl dX7_quarrel_26 ?_
      refine j_iconst X (v := 0) (by decide) dX7_quarrel_27 ?_
      refine j_bipush X (v := 99) (by decide) dX7_quarrel_28 ?_
      refine j_callSI X (nn := 3) (As := [.int i3, .int 0, .int 99]) (st := []) aw_110 (x_X7_isWithin l D y ad i3 0 99 _ _ h) aw_109 aw_111 aw_2 (by decide +kernel) ⟨Nat.le_of_ble_eq_true rfl, Nat.le_of_ble_eq_true rfl⟩ rfl (Nat.le_of_ble_eq_true rfl) ⟨Nat.le_of_ble_eq_true rfl, Nat.le_of_ble_eq_true rfl⟩ dX7_quarrel_30 ?_
      intro r7 M7 h
      refine j_if_eq X 52 (by decide) dX7_quarrel_33 (fun q_8 => ?_) (fun q_8 => ?_)
      · replace h := h.1 q_8
        refine j_aload_n X 1 rfl rfl dX7_quarrel_52 ?_
        refine j_ldc X (v := (-1000000001)) aw_108 dX7_quarrel_53 ?_
        refine j_callVI X (nn := 1) (As := [.int (-1000000001)]) (st := []) (ci := 7) cl_0.1 (wE_7 _ cl_0.2) rfl aw_117 aw_118 (x_X7_refuse l D y ad (-1000000001) _ _ h) aw_116 aw_119 aw_2 (by decide +kernel) ⟨Nat.le_of_ble_eq_true rfl, Nat.le_of_ble_eq_true rfl⟩ rfl (Nat.le_of_ble_eq_true rfl) ⟨Nat.le_of_ble_eq_true rfl, Nat.le_of_ble_eq_true rfl⟩ dX7_quarrel_55 ?_
        intro r9 M9 h
        exact j_iret X hr hlocks dX7_quarrel_58 h
      · replace h := h.2 q_8
        refine j_iload X 5 rfl dX7_quarrel_36 ?_
        refine j_iconst X (v := (-1)) (by decide) dX7_quarrel_38 ?_
        refine j_aload X 0 rfl dX7_quarrel_39 ?_
        refine j_getN X cl_12.1 (wE_0 _ cl_12.2) rfl awF0 3 (by decide) (List.mem_of_getElem? (i := 15) rfl) rfl (v := .int (M7 12 3)) rfl dX7_quarrel_41 ?_
        refine j_iconst X (v := 1) (by decide) dX7_quarrel_44 ?_
        refine j_isub X dX7_quarrel_45 ?_
        refine j_callSI X (nn := 3) (As := [.int i4, .int (-1), .int ((M7 12 3) - 1)]) (st := []) aw_110 (x_X7_isWithin l D y ad i4 (-1) ((M7 12 3) - 1) _ _ h) aw_109 aw_111 aw_2 (by decide +kernel) ⟨Nat.le_of_ble_eq_true rfl, Nat.le_of_ble_eq_true rfl⟩ rfl (Nat.le_of_ble_eq_true rfl) ⟨Nat.le_of_ble_eq_true rfl, Nat.le_of_ble_eq_true rfl⟩ dX7_quarrel_46 ?_
        intro r10 M10 h
        refine j_if_ne X 59 (by decide) dX7_quarrel_49 (fun q_11 => ?_) (fun q_11 => ?_)
        · replace h := h.1 q_11
          refine j_aload X 0 rfl dX7_quarrel_59 ?_
          refine j_getN X cl_12.1 (wE_0 _ cl_12.2) rfl awF0 3 (by decide) (List.mem_of_getElem? (i := 15) rfl) rfl (v := .int (M10 12 3)) rfl dX7_quarrel_61 ?_
          refine j_bipush X (v := 9) (by decide) dX7_quarrel_64 ?_
          refine j_icmp_lt X 76 (by decide) dX7_quarrel_66 (fun q_12 => ?_) (fun q_12 => ?_)
          · replace h := h.1 q_12
            refine j_aload X 0 rfl dX7_quarrel_76 ?_
            refine j_getN X cl_12.1 (wE_0 _ cl_12.2) rfl awF0 2 (by decide) (List.mem_of_getElem? (i := 14) rfl) rfl (v := .ref (ad 13)) rfl dX7_quarrel_78 ?_
            refine j_aload X 0 rfl dX7_quarrel_81 ?_
            refine j_getN X cl_12.1 (wE_0 _ cl_12.2) rfl awF0 3 (by decide) (List.mem_of_getElem? (i := 15) rfl) rfl (v := .int (M10 12 3)) rfl dX7_quarrel_83 ?_
            obtain ⟨hi_13, h⟩ := h
            refine j_aald10 X cl_13.1 cl_13.2 hi_13 dX7_quarrel_86 ?_
            refine j_eqr (v := (14 + (M10 12 3).toNatClampNeg)) (re_13 hi_13) ?_
            have hk_14 := rc_13 hi_13
            refine j_astore X [(6, .ref (ad (14 + (M10 12 3).toNatClampNeg))), (5, .ref (ad 12)), (0, .ref (ad 0)), (1, .int i1), (2, .int i2), (3, .int i3), (4, .int i4)] (by decide) rfl dX7_quarrel_87 ?_
            refine j_aload X 0 rfl dX7_quarrel_89 ?_
            refine j_iload_n X 3 rfl rfl dX7_quarrel_91 ?_
            refine j_callVNV X (nn := 1) (As := [.int i1]) (st := []) (ci := 1) hk_14.1 (wE_1 _ hk_14.2) rfl aw_172 aw_173 (x_X1_turnInto l D y ad (14 + (M10 12 3).toNatClampNeg) i1 hk_14 _ _ h) (List.mem_of_getElem? (i := 12) rfl) aw_174 aw_65 (by decide +kernel) ⟨Nat.le_of_ble_eq_true rfl, Nat.le_of_ble_eq_true rfl⟩ rfl (Nat.le_of_ble_eq_true rfl) ⟨Nat.le_of_ble_eq_true rfl, Nat.le_of_ble_eq_true rfl⟩ dX7_quarrel_92 ?_
            intro M15 h
            refine j_aload X 0 rfl dX7_quarrel_95 ?_
            refine j_iload_n X 4 rfl rfl dX7_quarrel_97 ?_
            refine j_putN X (up M15 (14 + (M10 12 3).toNatClampNeg) 2 i2) up_o hk_14.1 (wE_1 _ hk_14.2) rfl awF1 2 (by decide) (wP_1_2 _ _ hk_14.2) tyX1 tyX1_ok nmX1 rfl (ty := .int) (by decide +kernel) rfl rfl (Nat.le_of_ble_eq_true rfl) (List.mem_of_getElem? (i := 4) rfl) rfl dX7_quarrel_98 ?_
            refine j_aload X 0 rfl dX7_quarrel_101 ?_
            refine j_iload_n X 5 rfl rfl dX7_quarrel_103 ?_
            refine j_putN X (up (up M15 (14 + (M10 12 3).toNatClampNeg) 2 i2) (14 + (M10 12 3).toNatClampNeg) 3 i3) up_o hk_14.1 (wE_1 _ hk_14.2) rfl awF1 3 (by decide) (wP_1_3 _ _ hk_14.2) tyX1 tyX1_ok nmX1 rfl (ty := .int) (by decide +kernel) rfl rfl (Nat.le_of_ble_eq_true rfl) (List.mem_of_getElem? (i := 6) rfl) rfl dX7_quarrel_104 ?_
            refine j_aload X 0 rfl dX7_quarrel_107 ?_
            refine j_iload X 6 rfl dX7_quarrel_109 ?_
            refine j_putN X (up (up (up M15 (14 + (M10 12 3).toNatClampNeg) 2 i2) (14 + (M10 12 3).toNatClampNeg) 3 i3) (14 + (M10 12 3).toNatClampNeg) 4 i4) up_o hk_14.1 (wE_1 _ hk_14.2) rfl awF1 4 (by decide) (wP_1_4 _ _ hk_14.2) tyX1 tyX1_ok nmX1 rfl (ty := .int) (by decide +kernel) rfl rfl (Nat.le_of_ble_eq_true rfl) (List.mem_of_getElem? (i := 8) rfl) rfl dX7_quarrel_111 ?_
            refine j_aload X 0 rfl dX7_quarrel_114 ?_
            refine j_iconst X (v := 0) (by decide) dX7_quarrel_116 ?_
            refine j_putN X (up (up (up (up M15 (14 + (M10 12 3).toNatClampNeg) 2 i2) (14 + (M10 12 3).toNatClampNeg) 3 i3) (14 + (M10 12 3).toNatClampNeg) 4 i4) (14 + (M10 12 3).toNatClampNeg) 6 0) up_o hk_14.1 (wE_1 _ hk_14.2) rfl awF1 6 (by decide) (wP_1_6 _ _ hk_14.2) tyX1 tyX1_ok nmX1 rfl (ty := .boolean) (by decide +kernel) rfl rfl (Nat.le_of_ble_eq_true rfl) (List.mem_of_getElem? (i := 12) rfl) rfl dX7_quarrel_117 ?_
            refine j_topM (fun Mg_16 eMg_16 => ?_)
            replace h := h Mg_16 eMg_16
            refine j_aload X 0 rfl dX7_quarrel_120 ?_
            refine j_iconst X (v := 0) (by decide) dX7_quarrel_122 ?_
            refine j_putN X (up Mg_16 (14 + (M10 12 3).toNatClampNeg) 5 0) up_o hk_14.1 (wE_1 _ hk_14.2) rfl awF1 5 (by decide) (wP_1_5 _ _ hk_14.2) tyX1 tyX1_ok nmX1 rfl (ty := .int) (by decide +kernel) rfl rfl (Nat.le_of_ble_eq_true rfl) (List.mem_of_getElem? (i := 10) rfl) rfl dX7_quarrel_123 ?_
            refine j_aload X 1 rfl dX7_quarrel_126 ?_
            refine j_dup X rfl dX7_quarrel_128 ?_
            refine j_getN X cl_12.1 (wE_0 _ cl_12.2) rfl awF0 3 (by decide) (List.mem_of_getElem? (i := 15) rfl) rfl (v := .int ((up Mg_16 (14 + (M10 12 3).toNatClampNeg) 5 0) 12 3)) rfl dX7_quarrel_129 ?_
            refine j_iconst X (v := 1) (by decide) dX7_quarrel_132 ?_
            refine j_iadd X dX7_quarrel_133 ?_
            refine j_putN X (up (up Mg_16 (14 + (M10 12 3).toNatClampNeg) 5 0) 12 3 (((up Mg_16 (14 + (M10 12 3).toNatClampNeg) 5 0) 12 3) + 1)) up_o cl_12.1 (wE_0 _ cl_12.2) rfl awF0 3 (by decide) (wP_0_3 _ _ cl_12.2) tyX0 tyX0_ok nmX0 rfl (ty := .int) (by decide +kernel) rfl rfl (Nat.le_of_ble_eq_true rfl) (List.mem_of_getElem? (i := 15) rfl) rfl dX7_quarrel_134 ?_
            refine j_aload X 1 rfl dX7_quarrel_137 ?_
            refine j_getN X cl_12.1 (wE_0 _ cl_12.2) rfl awF0 3 (by decide) (List.mem_of_getElem? (i := 15) rfl) rfl (v := .int ((up (up Mg_16 (14 + (M10 12 3).toNatClampNeg) 5 0) 12 3 (((up Mg_16 (14 + (M10 12 3).toNatClampNeg) 5 0) 12 3) + 1)) 12 3)) rfl dX7_quarrel_139 ?_
            refine j_iconst X (v := 1) (by decide) dX7_quarrel_142 ?_
            refine j_isub X dX7_quarrel_143 ?_
            exact j_iret X hr hlocks dX7_quarrel_144 h
          · replace h := h.2 q_12
            refine j_aload_n X 1 rfl rfl dX7_quarrel_69 ?_
            refine j_ldc X (v := (-1000000004)) aw_168 dX7_quarrel_70 ?_
            refine j_callVI X (nn := 1) (As := [.int (-1000000004)]) (st := []) (ci := 7) cl_0.1 (wE_7 _ cl_0.2) rfl aw_117 aw_118 (x_X7_refuse l D y ad (-1000000004) _ _ h) aw_116 aw_119 aw_2 (by decide +kernel) ⟨Nat.le_of_ble_eq_true rfl, Nat.le_of_ble_eq_true rfl⟩ rfl (Nat.le_of_ble_eq_true rfl) ⟨Nat.le_of_ble_eq_true rfl, Nat.le_of_ble_eq_true rfl⟩ dX7_quarrel_72 ?_
            intro r17 M17 h
            exact j_iret X hr hlocks dX7_quarrel_75 h
        · replace h := h.2 q_11
          refine j_aload_n X 1 rfl rfl dX7_quarrel_52 ?_
          refine j_ldc X (v := (-1000000001)) aw_108 dX7_quarrel_53 ?_
          refine j_callVI X (nn := 1) (As := [.int (-1000000001)]) (st := []) (ci := 7) cl_0.1 (wE_7 _ cl_0.2) rfl aw_117 aw_118 (x_X7_refuse l D y ad (-1000000001) _ _ h) aw_116 aw_119 aw_2 (by decide +kernel) ⟨Nat.le_of_ble_eq_true rfl, Nat.le_of_ble_eq_true rfl⟩ rfl (Nat.le_of_ble_eq_true rfl) ⟨Nat.le_of_ble_eq_true rfl, Nat.le_of_ble_eq_true rfl⟩ dX7_quarrel_55 ?_
          intro r18 M18 h
          exact j_iret X hr hlocks dX7_quarrel_58 h
theorem dX7_isQuarrel_0 : decode cX7_isQuarrel 0 = .ok (.iload_n 1, 1) := dk_27 (by decide +kernel)
theorem dX7_isQuarrel_1 : decode cX7_isQuarrel 1 = .ok (.iconst 0, 1) := dk_3 (by decide +kernel)
theorem dX7_isQuarrel_2 : decode cX7_isQuarrel 2 = .ok (.aload_n 0, 1) := dk_42 (by decide +kernel)
theorem dX7_isQuarrel_3 : decode cX7_isQuarrel 3 = .ok (.getfield 12, 3) := dk_180 (by decide +kernel)
theorem dX7_isQuarrel_6 : decode cX7_isQuarrel 6 = .ok (.getfield 72, 3) := dk_180 (by decide +kernel)
theorem dX7_isQuarrel_9 : decode cX7_isQuarrel 9 = .ok (.getfield 86, 3) := dk_180 (by decide +kernel)
theorem dX7_isQuarrel_12 : decode cX7_isQuarrel 12 = .ok (.iconst 1, 1) := dk_4 (by decide +kernel)
theorem dX7_isQuarrel_13 : decode cX7_isQuarrel 13 = .ok (.isub, 1) := dk_100 (by decide +kernel)
theorem dX7_isQuarrel_14 : decode cX7_isQuarrel 14 = .ok (.invokestatic 60, 3) := dk_184 (by decide +kernel)
theorem dX7_isQuarrel_17 : decode cX7_isQuarrel 17 = .ok (.ireturn, 1) := dk_172 (by decide +kernel)
set_option maxRecDepth 100000 in
set_option maxHeartbeats 8000000 in
theorem x_X7_isQuarrel (l : Launch) (D : va_G) (y : wY) (ad : Nat → Nat) (i1 : Int32) (M : Mem) (K : Int32 → Mem → Prop) (h : wp_X7_isQuarrel i1 M K) : MI l D y ad yX7_isQuarrel (Cond.code yX7_isQuarrel cX7_isQuarrel 2 (some .boolean)) 1 M [.ref (ad 0), .int i1] K := by
  refine MI_of (by decide) (Nat.le_of_ble_eq_true rfl) ?_
  intro p e s m args below meth c X hr hlocks
  delta wp_X7_isQuarrel at h
  refine j_lv (lv1 := [(0, .ref (ad 0)), (1, .int i1)]) [0, 1] rfl ?_
  refine j_iload_n X 1 rfl rfl dX7_isQuarrel_0 ?_
  refine j_iconst X (v := 0) (by decide) dX7_isQuarrel_1 ?_
  refine j_aload_n X 0 rfl rfl dX7_isQuarrel_2 ?_
  refine j_get X cl_0.1 (wE_7 _ cl_0.2) rfl awF7 0 (by decide) aw_16 rfl (v := .ref (ad 1)) rfl dX7_isQuarrel_3 ?_
  refine j_getN X cl_1.1 (wE_6 _ cl_1.2) rfl awF6 2 (by decide) (List.mem_of_getElem? (i := 23) rfl) rfl (v := .ref (ad 12)) rfl dX7_isQuarrel_6 ?_
  refine j_getN X cl_12.1 (wE_0 _ cl_12.2) rfl awF0 3 (by decide) (List.mem_of_getElem? (i := 15) rfl) rfl (v := .int (M 12 3)) rfl dX7_isQuarrel_9 ?_
  refine j_iconst X (v := 1) (by decide) dX7_isQuarrel_12 ?_
  refine j_isub X dX7_isQuarrel_13 ?_
  refine j_callSI X (nn := 3) (As := [.int i1, .int 0, .int ((M 12 3) - 1)]) (st := []) aw_110 (x_X7_isWithin l D y ad i1 0 ((M 12 3) - 1) _ _ h) aw_109 aw_111 aw_2 (by decide +kernel) ⟨Nat.le_of_ble_eq_true rfl, Nat.le_of_ble_eq_true rfl⟩ rfl (Nat.le_of_ble_eq_true rfl) ⟨Nat.le_of_ble_eq_true rfl, Nat.le_of_ble_eq_true rfl⟩ dX7_isQuarrel_14 ?_
  intro r1 M1 h
  obtain ⟨hb_2, h⟩ := h
  exact j_zret X hr hlocks hb_2 dX7_isQuarrel_17 h
theorem dX7_ofQuarrel_0 : decode cX7_ofQuarrel 0 = .ok (.aload_n 0, 1) := dk_42 (by decide +kernel)
theorem dX7_ofQuarrel_1 : decode cX7_ofQuarrel 1 = .ok (.iload_n 1, 1) := dk_27 (by decide +kernel)
theorem dX7_ofQuarrel_2 : decode cX7_ofQuarrel 2 = .ok (.invokevirtual 117, 3) := dk_182 (by decide +kernel)
theorem dX7_ofQuarrel_5 : decode cX7_ofQuarrel 5 = .ok (.ifCond .eq 13, 3) := dk_153 (by decide +kernel)
theorem dX7_ofQuarrel_18 : decode cX7_ofQuarrel 18 = .ok (.aload_n 0, 1) := dk_42 (by decide +kernel)
theorem dX7_ofQuarrel_19 : decode cX7_ofQuarrel 19 = .ok (.ldc 68, 2) := dk_18 (by decide +kernel)
theorem dX7_ofQuarrel_21 : decode cX7_ofQuarrel 21 = .ok (.invokevirtual 69, 3) := dk_182 (by decide +kernel)
theorem dX7_ofQuarrel_24 : decode cX7_ofQuarrel 24 = .ok (.ireturn, 1) := dk_172 (by decide +kernel)
theorem dX7_ofQuarrel_8 : decode cX7_ofQuarrel 8 = .ok (.iload_n 2, 1) := dk_28 (by decide +kernel)
theorem dX7_ofQuarrel_9 : decode cX7_ofQuarrel 9 = .ok (.iconst 0, 1) := dk_3 (by decide +kernel)
theorem dX7_ofQuarrel_10 : decode cX7_ofQuarrel 10 = .ok (.bipush 9, 2) := dk_16 (by decide +kernel)
theorem dX7_ofQuarrel_12 : decode cX7_ofQuarrel 12 = .ok (.invokestatic 60, 3) := dk_184 (by decide +kernel)
theorem dX7_ofQuarrel_15 : decode cX7_ofQuarrel 15 = .ok (.ifCond .ne 10, 3) := dk_154 (by decide +kernel)
theorem dX7_ofQuarrel_25 : decode cX7_ofQuarrel 25 = .ok (.aload_n 0, 1) := dk_42 (by decide +kernel)
theorem dX7_ofQuarrel_26 : decode cX7_ofQuarrel 26 = .ok (.getfield 12, 3) := dk_180 (by decide +kernel)
theorem dX7_ofQuarrel_29 : decode cX7_ofQuarrel 29 = .ok (.getfield 72, 3) := dk_180 (by decide +kernel)
theorem dX7_ofQuarrel_32 : decode cX7_ofQuarrel 32 = .ok (.getfield 91, 3) := dk_180 (by decide +kernel)
theorem dX7_ofQuarrel_35 : decode cX7_ofQuarrel 35 = .ok (.iload_n 1, 1) := dk_27 (by decide +kernel)
theorem dX7_ofQuarrel_36 : decode cX7_ofQuarrel 36 = .ok (.aaload, 1) := dk_50 (by decide +kernel)
theorem dX7_ofQuarrel_37 : decode cX7_ofQuarrel 37 = .ok (.astore_n 3, 1) := dk_78 (by decide +kernel)
theorem dX7_ofQuarrel_38 : decode cX7_ofQuarrel 38 = .ok (.iload_n 2, 1) := dk_28 (by decide +kernel)
theorem dX7_ofQuarrel_39 : decode cX7_ofQuarrel 39 = .ok (.tableswitch 109 0 8 #[49, 54, 59, 64, 69, 74, 87, 92, 104], 49) := by decide +kernel
theorem dX7_ofQuarrel_88 : decode cX7_ofQuarrel 88 = .ok (.aload_n 3, 1) := dk_45 (by decide +kernel)
theorem dX7_ofQuarrel_89 : decode cX7_ofQuarrel 89 = .ok (.getfield 120, 3) := dk_180 (by decide +kernel)
theorem dX7_ofQuarrel_92 : decode cX7_ofQuarrel 92 = .ok (.ireturn, 1) := dk_172 (by decide +kernel)
theorem dX7_ofQuarrel_93 : decode cX7_ofQuarrel 93 = .ok (.aload_n 3, 1) := dk_45 (by decide +kernel)
theorem dX7_ofQuarrel_94 : decode cX7_ofQuarrel 94 = .ok (.getfield 123, 3) := dk_180 (by decide +kernel)
theorem dX7_ofQuarrel_97 : decode cX7_ofQuarrel 97 = .ok (.ireturn, 1) := dk_172 (by decide +kernel)
theorem dX7_ofQuarrel_98 : decode cX7_ofQuarrel 98 = .ok (.aload_n 3, 1) := dk_45 (by decide +kernel)
theorem dX7_ofQuarrel_99 : decode cX7_ofQuarrel 99 = .ok (.getfield 101, 3) := dk_180 (by decide +kernel)
theorem dX7_ofQuarrel_102 : decode cX7_ofQuarrel 102 = .ok (.ireturn, 1) := dk_172 (by decide +kernel)
theorem dX7_ofQuarrel_103 : decode cX7_ofQuarrel 103 = .ok (.aload_n 3, 1) := dk_45 (by decide +kernel)
theorem dX7_ofQuarrel_104 : decode cX7_ofQuarrel 104 = .ok (.getfield 104, 3) := dk_180 (by decide +kernel)
theorem dX7_ofQuarrel_107 : decode cX7_ofQuarrel 107 = .ok (.ireturn, 1) := dk_172 (by decide +kernel)
theorem dX7_ofQuarrel_108 : decode cX7_ofQuarrel 108 = .ok (.aload_n 3, 1) := dk_45 (by decide +kernel)
theorem dX7_ofQuarrel_109 : decode cX7_ofQuarrel 109 = .ok (.getfield 107, 3) := dk_180 (by decide +kernel)
theorem dX7_ofQuarrel_112 : decode cX7_ofQuarrel 112 = .ok (.ireturn, 1) := dk_172 (by decide +kernel)
theorem dX7_ofQuarrel_113 : decode cX7_ofQuarrel 113 = .ok (.aload_n 3, 1) := dk_45 (by decide +kernel)
theorem dX7_ofQuarrel_114 : decode cX7_ofQuarrel 114 = .ok (.getfield 110, 3) := dk_180 (by decide +kernel)
theorem dX7_ofQuarrel_117 : decode cX7_ofQuarrel 117 = .ok (.ifCond .eq 7, 3) := dk_153 (by decide +kernel)
theorem dX7_ofQuarrel_124 : decode cX7_ofQuarrel 124 = .ok (.iconst 0, 1) := dk_3 (by decide +kernel)
theorem dX7_ofQuarrel_125 : decode cX7_ofQuarrel 125 = .ok (.ireturn, 1) := dk_172 (by decide +kernel)
theorem dX7_ofQuarrel_120 : decode cX7_ofQuarrel 120 = .ok (.iconst 1, 1) := dk_4 (by decide +kernel)
theorem dX7_ofQuarrel_121 : decode cX7_ofQuarrel 121 = .ok (.goto 4, 3) := dk_167 (by decide +kernel)
theorem dX7_ofQuarrel_126 : decode cX7_ofQuarrel 126 = .ok (.aload_n 3, 1) := dk_45 (by decide +kernel)
theorem dX7_ofQuarrel_127 : decode cX7_ofQuarrel 127 = .ok (.getfield 114, 3) := dk_180 (by decide +kernel)
theorem dX7_ofQuarrel_130 : decode cX7_ofQuarrel 130 = .ok (.ireturn, 1) := dk_172 (by decide +kernel)
theorem dX7_ofQuarrel_131 : decode cX7_ofQuarrel 131 = .ok (.aload_n 0, 1) := dk_42 (by decide +kernel)
theorem dX7_ofQuarrel_132 : decode cX7_ofQuarrel 132 = .ok (.getfield 12, 3) := dk_180 (by decide +kernel)
theorem dX7_ofQuarrel_135 : decode cX7_ofQuarrel 135 = .ok (.getfield 72, 3) := dk_180 (by decide +kernel)
theorem dX7_ofQuarrel_138 : decode cX7_ofQuarrel 138 = .ok (.aload_n 3, 1) := dk_45 (by decide +kernel)
theorem dX7_ofQuarrel_139 : decode cX7_ofQuarrel 139 = .ok (.invokevirtual 126, 3) := dk_182 (by decide +kernel)
theorem dX7_ofQuarrel_142 : decode cX7_ofQuarrel 142 = .ok (.ireturn, 1) := dk_172 (by decide +kernel)
theorem dX7_ofQuarrel_143 : decode cX7_ofQuarrel 143 = .ok (.aload_n 3, 1) := dk_45 (by decide +kernel)
theorem dX7_ofQuarrel_144 : decode cX7_ofQuarrel 144 = .ok (.invokevirtual 130, 3) := dk_182 (by decide +kernel)
theorem dX7_ofQuarrel_147 : decode cX7_ofQuarrel 147 = .ok (.ireturn, 1) := dk_172 (by decide +kernel)
theorem dX7_ofQuarrel_148 : decode cX7_ofQuarrel 148 = .ok (.aload_n 3, 1) := dk_45 (by decide +kernel)
theorem dX7_ofQuarrel_149 : decode cX7_ofQuarrel 149 = .ok (.invokevirtual 134, 3) := dk_182 (by decide +kernel)
theorem dX7_ofQuarrel_152 : decode cX7_ofQuarrel 152 = .ok (.ireturn, 1) := dk_172 (by decide +kernel)
set_option maxRecDepth 100000 in
set_option maxHeartbeats 8000000 in
theorem x_X7_ofQuarrel (l : Launch) (D : va_G) (y : wY) (ad : Nat → Nat) (i1 : Int32) (i2 : Int32) (M : Mem) (K : Int32 → Mem → Prop) (h : wp_X7_ofQuarrel i1 i2 M K) : MI l D y ad yX7_ofQuarrel (Cond.code yX7_ofQuarrel cX7_ofQuarrel 4 (some .int)) 4 M [.ref (ad 0), .int i1, .int i2] K := by
  refine MI_of (by decide) (Nat.le_of_ble_eq_true rfl) ?_
  intro p e s m args below meth c X hr hlocks
  delta wp_X7_ofQuarrel at h
  refine j_lv (lv1 := [(0, .ref (ad 0)), (1, .int i1), (2, .int i2)]) [0, 1, 2] rfl ?_
  refine j_aload_n X 0 rfl rfl dX7_ofQuarrel_0 ?_
  refine j_iload_n X 1 rfl rfl dX7_ofQuarrel_1 ?_
  refine j_callVI X (nn := 1) (As := [.int i1]) (st := []) (ci := 7) cl_0.1 (wE_7 _ cl_0.2) rfl aw_191 aw_192 (x_X7_isQuarrel l D y ad i1 _ _ h) aw_190 aw_193 aw_2 (by decide +kernel) ⟨Nat.le_of_ble_eq_true rfl, Nat.le_of_ble_eq_true rfl⟩ rfl (Nat.le_of_ble_eq_true rfl) ⟨Nat.le_of_ble_eq_true rfl, Nat.le_of_ble_eq_true rfl⟩ dX7_ofQuarrel_2 ?_
  intro r1 M1 h
  refine j_if_eq X 18 (by decide) dX7_ofQuarrel_5 (fun q_2 => ?_) (fun q_2 => ?_)
  · replace h := h.1 q_2
    refine j_aload_n X 0 rfl rfl dX7_ofQuarrel_18 ?_
    refine j_ldc X (v := (-1000000001)) aw_108 dX7_ofQuarrel_19 ?_
    refine j_callVI X (nn := 1) (As := [.int (-1000000001)]) (st := []) (ci := 7) cl_0.1 (wE_7 _ cl_0.2) rfl aw_117 aw_118 (x_X7_refuse l D y ad (-1000000001) _ _ h) aw_116 aw_119 aw_2 (by decide +kernel) ⟨Nat.le_of_ble_eq_true rfl, Nat.le_of_ble_eq_true rfl⟩ rfl (Nat.le_of_ble_eq_true rfl) ⟨Nat.le_of_ble_eq_true rfl, Nat.le_of_ble_eq_true rfl⟩ dX7_ofQuarrel_21 ?_
    intro r3 M3 h
    exact j_iret X hr hlocks dX7_ofQuarrel_24 h
  · replace h := h.2 q_2
    refine j_iload_n X 2 rfl rfl dX7_ofQuarrel_8 ?_
    refine j_iconst X (v := 0) (by decide) dX7_ofQuarrel_9 ?_
    refine j_bipush X (v := 9) (by decide) dX7_ofQuarrel_10 ?_
    refine j_callSI X (nn := 3) (As := [.int i2, .int 0, .int 9]) (st := []) aw_110 (x_X7_isWithin l D y ad i2 0 9 _ _ h) aw_109 aw_111 aw_2 (by decide +kernel) ⟨Nat.le_of_ble_eq_true rfl, Nat.le_of_ble_eq_true rfl⟩ rfl (Nat.le_of_ble_eq_true rfl) ⟨Nat.le_of_ble_eq_true rfl, Nat.le_of_ble_eq_true rfl⟩ dX7_ofQuarrel_12 ?_
    intro r4 M4 h
    refine j_if_ne X 25 (by decide) dX7_ofQuarrel_15 (fun q_5 => ?_) (fun q_5 => ?_)
    · replace h := h.1 q_5
      refine j_aload_n X 0 rfl rfl dX7_ofQuarrel_25 ?_
      refine j_get X cl_0.1 (wE_7 _ cl_0.2) rfl awF7 0 (by decide) aw_16 rfl (v := .ref (ad 1)) rfl dX7_ofQuarrel_26 ?_
      refine j_getN X cl_1.1 (wE_6 _ cl_1.2) rfl awF6 2 (by decide) (List.mem_of_getElem? (i := 23) rfl) rfl (v := .ref (ad 12)) rfl dX7_ofQuarrel_29 ?_
      refine j_getN X cl_12.1 (wE_0 _ cl_12.2) rfl awF0 2 (by decide) (List.mem_of_getElem? (i := 14) rfl) rfl (v := .ref (ad 13)) rfl dX7_ofQuarrel_32 ?_
      refine j_iload_n X 1 rfl rfl dX7_ofQuarrel_35 ?_
      obtain ⟨hi_6, h⟩ := h
      refine j_aald10 X cl_13.1 cl_13.2 hi_6 dX7_ofQuarrel_36 ?_
      refine j_eqr (v := (14 + i1.toNatClampNeg)) (re_13 hi_6) ?_
      have hk_7 := rc_13 hi_6
      refine j_astore_n X [(3, .ref (ad (14 + i1.toNatClampNeg))), (0, .ref (ad 0)), (1, .int i1), (2, .int i2)] rfl (by decide) rfl dX7_ofQuarrel_37 ?_
      refine j_iload_n X 3 rfl rfl dX7_ofQuarrel_38 ?_
      by_cases w_8 : i2 = 0
      · replace h := h.1 w_8
        refine j_tsw_in X 88 0 w_8 (by decide) (by decide) (off := 49) rfl (by decide) dX7_ofQuarrel_39 ?_
        refine j_aload_n X 0 rfl rfl dX7_ofQuarrel_88 ?_
        refine j_getN X hk_7.1 (wE_1 _ hk_7.2) rfl awF1 0 (by decide) (List.mem_of_getElem? (i := 1) rfl) rfl (v := .int (M4 (14 + i1.toNatClampNeg) 0)) rfl dX7_ofQuarrel_89 ?_
        exact j_iret X hr hlocks dX7_ofQuarrel_92 h
      replace h := h.2 w_8
      by_cases w_9 : i2 = 1
      · replace h := h.1 w_9
        refine j_tsw_in X 93 1 w_9 (by decide) (by decide) (off := 54) rfl (by decide) dX7_ofQuarrel_39 ?_
        refine j_aload_n X 0 rfl rfl dX7_ofQuarrel_93 ?_
        refine j_getN X hk_7.1 (wE_1 _ hk_7.2) rfl awF1 1 (by decide) (List.mem_of_getElem? (i := 2) rfl) rfl (v := .int (M4 (14 + i1.toNatClampNeg) 1)) rfl dX7_ofQuarrel_94 ?_
        exact j_iret X hr hlocks dX7_ofQuarrel_97 h
      replace h := h.2 w_9
      by_cases w_10 : i2 = 2
      · replace h := h.1 w_10
        refine j_tsw_in X 98 2 w_10 (by decide) (by decide) (off := 59) rfl (by decide) dX7_ofQuarrel_39 ?_
        refine j_aload_n X 0 rfl rfl dX7_ofQuarrel_98 ?_
        refine j_getN X hk_7.1 (wE_1 _ hk_7.2) rfl awF1 2 (by decide) (List.mem_of_getElem? (i := 4) rfl) rfl (v := .int (M4 (14 + i1.toNatClampNeg) 2)) rfl dX7_ofQuarrel_99 ?_
        exact j_iret X hr hlocks dX7_ofQuarrel_102 h
      replace h := h.2 w_10
      by_cases w_11 : i2 = 3
      · replace h := h.1 w_11
        refine j_tsw_in X 103 3 w_11 (by decide) (by decide) (off := 64) rfl (by decide) dX7_ofQuarrel_39 ?_
        refine j_aload_n X 0 rfl rfl dX7_ofQuarrel_103 ?_
        refine j_getN X hk_7.1 (wE_1 _ hk_7.2) rfl awF1 3 (by decide) (List.mem_of_getElem? (i := 6) rfl) rfl (v := .int (M4 (14 + i1.toNatClampNeg) 3)) rfl dX7_ofQuarrel_104 ?_
        exact j_iret X hr hlocks dX7_ofQuarrel_107 h
      replace h := h.2 w_11
      by_cases w_12 : i2 = 4
      · replace h := h.1 w_12
        refine j_tsw_in X 108 4 w_12 (by decide) (by decide) (off := 69) rfl (by decide) dX7_ofQuarrel_39 ?_
        refine j_aload_n X 0 rfl rfl dX7_ofQuarrel_108 ?_
        refine j_getN X hk_7.1 (wE_1 _ hk_7.2) rfl awF1 4 (by decide) (List.mem_of_getElem? (i := 8) rfl) rfl (v := .int (M4 (14 + i1.toNatClampNeg) 4)) rfl dX7_ofQuarrel_109 ?_
        exact j_iret X hr hlocks dX7_ofQuarrel_112 h
      replace h := h.2 w_12
      by_cases w_13 : i2 = 5
      · replace h := h.1 w_13
        refine j_tsw_in X 113 5 w_13 (by decide) (by decide) (off := 74) rfl (by decide) dX7_ofQuarrel_39 ?_
        refine j_aload_n X 0 rfl rfl dX7_ofQuarrel_113 ?_
        refine j_getN X hk_7.1 (wE_1 _ hk_7.2) rfl awF1 6 (by decide) (List.mem_of_getElem? (i := 12) rfl) rfl (v := .int (M4 (14 + i1.toNatClampNeg) 6)) rfl dX7_ofQuarrel_114 ?_
        refine j_if_eq X 124 (by decide) dX7_ofQuarrel_117 (fun q_14 => ?_) (fun q_14 => ?_)
        · replace h := h.1 q_14
          refine j_iconst X (v := 0) (by decide) dX7_ofQuarrel_124 ?_
          exact j_iret X hr hlocks dX7_ofQuarrel_125 h
        · replace h := h.2 q_14
          refine j_iconst X (v := 1) (by decide) dX7_ofQuarrel_120 ?_
          refine j_goto X 125 (by decide) dX7_ofQuarrel_121 ?_
          exact j_iret X hr hlocks dX7_ofQuarrel_125 h
      replace h := h.2 w_13
      by_cases w_15 : i2 = 6
      · replace h := h.1 w_15
        refine j_tsw_in X 126 6 w_15 (by decide) (by decide) (off := 87) rfl (by decide) dX7_ofQuarrel_39 ?_
        refine j_aload_n X 0 rfl rfl dX7_ofQuarrel_126 ?_
        refine j_getN X hk_7.1 (wE_1 _ hk_7.2) rfl awF1 5 (by decide) (List.mem_of_getElem? (i := 10) rfl) rfl (v := .int (M4 (14 + i1.toNatClampNeg) 5)) rfl dX7_ofQuarrel_127 ?_
        exact j_iret X hr hlocks dX7_ofQuarrel_130 h
      replace h := h.2 w_15
      by_cases w_16 : i2 = 7
      · replace h := h.1 w_16
        refine j_tsw_in X 131 7 w_16 (by decide) (by decide) (off := 92) rfl (by decide) dX7_ofQuarrel_39 ?_
        refine j_aload_n X 1 rfl rfl dX7_ofQuarrel_131 ?_
        refine j_get X cl_0.1 (wE_7 _ cl_0.2) rfl awF7 0 (by decide) aw_16 rfl (v := .ref (ad 1)) rfl dX7_ofQuarrel_132 ?_
        refine j_getN X cl_1.1 (wE_6 _ cl_1.2) rfl awF6 2 (by decide) (List.mem_of_getElem? (i := 23) rfl) rfl (v := .ref (ad 12)) rfl dX7_ofQuarrel_135 ?_
        refine j_aload_n X 0 rfl rfl dX7_ofQuarrel_138 ?_
        refine j_callVNI X (nn := 1) (As := [.ref (ad (14 + i1.toNatClampNeg))]) (st := []) (ci := 0) cl_12.1 (wE_0 _ cl_12.2) rfl aw_194 aw_195 (x_X0_gainsOf l D y ad 12 (14 + i1.toNatClampNeg) cl_12 hk_7 _ _ h) (List.mem_of_getElem? (i := 13) rfl) aw_196 aw_20 (by decide +kernel) ⟨Nat.le_of_ble_eq_true rfl, Nat.le_of_ble_eq_true rfl⟩ rfl (Nat.le_of_ble_eq_true rfl) ⟨Nat.le_of_ble_eq_true rfl, Nat.le_of_ble_eq_true rfl⟩ dX7_ofQuarrel_139 ?_
        intro r17 M17 h
        exact j_iret X hr hlocks dX7_ofQuarrel_142 h
      replace h := h.2 w_16
      by_cases w_18 : i2 = 8
      · replace h := h.1 w_18
        refine j_tsw_in X 143 8 w_18 (by decide) (by decide) (off := 104) rfl (by decide) dX7_ofQuarrel_39 ?_
        refine j_aload_n X 0 rfl rfl dX7_ofQuarrel_143 ?_
        refine j_callVNI X (nn := 0) (As := []) (st := []) (ci := 1) hk_7.1 (wE_1 _ hk_7.2) rfl aw_220 aw_221 (x_X1_needs l D y ad (14 + i1.toNatClampNeg) hk_7 _ _ h) (List.mem_of_getElem? (i := 16) rfl) aw_222 aw_65 (by decide +kernel) ⟨Nat.le_of_ble_eq_true rfl, Nat.le_of_ble_eq_true rfl⟩ rfl (Nat.le_of_ble_eq_true rfl) ⟨Nat.le_of_ble_eq_true rfl, Nat.le_of_ble_eq_true rfl⟩ dX7_ofQuarrel_144 ?_
        intro r19 M19 h
        exact j_iret X hr hlocks dX7_ofQuarrel_147 h
      replace h := h.2 w_18
      have qw_8 := ti_ne (n := 0) (by decide) w_8
      have qw_9 := ti_ne (n := 1) (by decide) w_9
      have qw_10 := ti_ne (n := 2) (by decide) w_10
      have qw_11 := ti_ne (n := 3) (by decide) w_11
      have qw_12 := ti_ne (n := 4) (by decide) w_12
      have qw_13 := ti_ne (n := 5) (by decide) w_13
      have qw_15 := ti_ne (n := 6) (by decide) w_15
      have qw_16 := ti_ne (n := 7) (by decide) w_16
      have qw_18 := ti_ne (n := 8) (by decide) w_18
      refine j_tsw_out X 148 (by omega) (by decide) dX7_ofQuarrel_39 ?_
      refine j_aload_n X 0 rfl rfl dX7_ofQuarrel_148 ?_
      refine j_callVNI X (nn := 0) (As := []) (st := []) (ci := 1) hk_7.1 (wE_1 _ hk_7.2) rfl aw_223 aw_224 (x_X1_dulls l D y ad (14 + i1.toNatClampNeg) hk_7 _ _ h) (List.mem_of_getElem? (i := 17) rfl) aw_225 aw_65 (by decide +kernel) ⟨Nat.le_of_ble_eq_true rfl, Nat.le_of_ble_eq_true rfl⟩ rfl (Nat.le_of_ble_eq_true rfl) ⟨Nat.le_of_ble_eq_true rfl, Nat.le_of_ble_eq_true rfl⟩ dX7_ofQuarrel_149 ?_
      intro r20 M20 h
      exact j_iret X hr hlocks dX7_ofQuarrel_152 h
    · replace h := h.2 q_5
      refine j_aload_n X 0 rfl rfl dX7_ofQuarrel_18 ?_
      refine j_ldc X (v := (-1000000001)) aw_108 dX7_ofQuarrel_19 ?_
      refine j_callVI X (nn := 1) (As := [.int (-1000000001)]) (st := []) (ci := 7) cl_0.1 (wE_7 _ cl_0.2) rfl aw_117 aw_118 (x_X7_refuse l D y ad (-1000000001) _ _ h) aw_116 aw_119 aw_2 (by decide +kernel) ⟨Nat.le_of_ble_eq_true rfl, Nat.le_of_ble_eq_true rfl⟩ rfl (Nat.le_of_ble_eq_true rfl) ⟨Nat.le_of_ble_eq_true rfl, Nat.le_of_ble_eq_true rfl⟩ dX7_ofQuarrel_21 ?_
      intro r21 M21 h
      exact j_iret X hr hlocks dX7_ofQuarrel_24 h
theorem dX7_mostOfQuarrel_0 : decode cX7_mostOfQuarrel 0 = .ok (.iload_n 0, 1) := dk_26 (by decide +kernel)
theorem dX7_mostOfQuarrel_1 : decode cX7_mostOfQuarrel 1 = .ok (.tableswitch 35 0 2 #[27, 30, 33], 27) := by decide +kernel
theorem dX7_mostOfQuarrel_28 : decode cX7_mostOfQuarrel 28 = .ok (.bipush 9, 2) := dk_16 (by decide +kernel)
theorem dX7_mostOfQuarrel_30 : decode cX7_mostOfQuarrel 30 = .ok (.ireturn, 1) := dk_172 (by decide +kernel)
theorem dX7_mostOfQuarrel_31 : decode cX7_mostOfQuarrel 31 = .ok (.bipush 99, 2) := dk_16 (by decide +kernel)
theorem dX7_mostOfQuarrel_33 : decode cX7_mostOfQuarrel 33 = .ok (.ireturn, 1) := dk_172 (by decide +kernel)
theorem dX7_mostOfQuarrel_34 : decode cX7_mostOfQuarrel 34 = .ok (.iconst 1, 1) := dk_4 (by decide +kernel)
theorem dX7_mostOfQuarrel_35 : decode cX7_mostOfQuarrel 35 = .ok (.ireturn, 1) := dk_172 (by decide +kernel)
theorem dX7_mostOfQuarrel_36 : decode cX7_mostOfQuarrel 36 = .ok (.sipush 999, 3) := dk_17 (by decide +kernel)
theorem dX7_mostOfQuarrel_39 : decode cX7_mostOfQuarrel 39 = .ok (.ireturn, 1) := dk_172 (by decide +kernel)
set_option maxRecDepth 100000 in
set_option maxHeartbeats 8000000 in
theorem x_X7_mostOfQuarrel (l : Launch) (D : va_G) (y : wY) (ad : Nat → Nat) (i0 : Int32) (M : Mem) (K : Int32 → Mem → Prop) (h : wp_X7_mostOfQuarrel i0 M K) : MI l D y ad yX7_mostOfQuarrel (Cond.code yX7_mostOfQuarrel cX7_mostOfQuarrel 1 (some .int)) 0 M [.int i0] K := by
  refine MI_of (by decide) (Nat.le_of_ble_eq_true rfl) ?_
  intro p e s m args below meth c X hr hlocks
  delta wp_X7_mostOfQuarrel at h
  refine j_lv (lv1 := [(0, .int i0)]) [0] rfl ?_
  refine j_iload_n X 0 rfl rfl dX7_mostOfQuarrel_0 ?_
  by_cases w_1 : i0 = 0
  · replace h := h.1 w_1
    refine j_tsw_in X 28 0 w_1 (by decide) (by decide) (off := 27) rfl (by decide) dX7_mostOfQuarrel_1 ?_
    refine j_bipush X (v := 9) (by decide) dX7_mostOfQuarrel_28 ?_
    exact j_iret X hr hlocks dX7_mostOfQuarrel_30 h
  replace h := h.2 w_1
  by_cases w_2 : i0 = 1
  · replace h := h.1 w_2
    refine j_tsw_in X 31 1 w_2 (by decide) (by decide) (off := 30) rfl (by decide) dX7_mostOfQuarrel_1 ?_
    refine j_bipush X (v := 99) (by decide) dX7_mostOfQuarrel_31 ?_
    exact j_iret X hr hlocks dX7_mostOfQuarrel_33 h
  replace h := h.2 w_2
  by_cases w_3 : i0 = 2
  · replace h := h.1 w_3
    refine j_tsw_in X 34 2 w_3 (by decide) (by decide) (off := 33) rfl (by decide) dX7_mostOfQuarrel_1 ?_
    refine j_iconst X (v := 1) (by decide) dX7_mostOfQuarrel_34 ?_
    exact j_iret X hr hlocks dX7_mostOfQuarrel_35 h
  replace h := h.2 w_3
  have qw_1 := ti_ne (n := 0) (by decide) w_1
  have qw_2 := ti_ne (n := 1) (by decide) w_2
  have qw_3 := ti_ne (n := 2) (by decide) w_3
  refine j_tsw_out X 36 (by omega) (by decide) dX7_mostOfQuarrel_1 ?_
  refine j_sipush X (v := 999) (by decide) dX7_mostOfQuarrel_36 ?_
  exact j_iret X hr hlocks dX7_mostOfQuarrel_39 h
theorem dX7_change_0 : decode cX7_change 0 = .ok (.aload_n 0, 1) := dk_42 (by decide +kernel)
theorem dX7_change_1 : decode cX7_change 1 = .ok (.iload_n 1, 1) := dk_27 (by decide +kernel)
theorem dX7_change_2 : decode cX7_change 2 = .ok (.invokevirtual 117, 3) := dk_182 (by decide +kernel)
theorem dX7_change_5 : decode cX7_change 5 = .ok (.ifCond .eq 24, 3) := dk_153 (by decide +kernel)
theorem dX7_change_29 : decode cX7_change 29 = .ok (.aload_n 0, 1) := dk_42 (by decide +kernel)
theorem dX7_change_30 : decode cX7_change 30 = .ok (.ldc 68, 2) := dk_18 (by decide +kernel)
theorem dX7_change_32 : decode cX7_change 32 = .ok (.invokevirtual 69, 3) := dk_182 (by decide +kernel)
theorem dX7_change_35 : decode cX7_change 35 = .ok (.ireturn, 1) := dk_172 (by decide +kernel)
theorem dX7_change_8 : decode cX7_change 8 = .ok (.iload_n 2, 1) := dk_28 (by decide +kernel)
theorem dX7_change_9 : decode cX7_change 9 = .ok (.iconst 0, 1) := dk_3 (by decide +kernel)
theorem dX7_change_10 : decode cX7_change 10 = .ok (.iconst 3, 1) := dk_6 (by decide +kernel)
theorem dX7_change_11 : decode cX7_change 11 = .ok (.invokestatic 60, 3) := dk_184 (by decide +kernel)
theorem dX7_change_14 : decode cX7_change 14 = .ok (.ifCond .eq 15, 3) := dk_153 (by decide +kernel)
theorem dX7_change_17 : decode cX7_change 17 = .ok (.iload_n 3, 1) := dk_29 (by decide +kernel)
theorem dX7_change_18 : decode cX7_change 18 = .ok (.iconst 0, 1) := dk_3 (by decide +kernel)
theorem dX7_change_19 : decode cX7_change 19 = .ok (.iload_n 2, 1) := dk_28 (by decide +kernel)
theorem dX7_change_20 : decode cX7_change 20 = .ok (.invokestatic 137, 3) := dk_184 (by decide +kernel)
theorem dX7_change_23 : decode cX7_change 23 = .ok (.invokestatic 60, 3) := dk_184 (by decide +kernel)
theorem dX7_change_26 : decode cX7_change 26 = .ok (.ifCond .ne 10, 3) := dk_154 (by decide +kernel)
theorem dX7_change_36 : decode cX7_change 36 = .ok (.aload_n 0, 1) := dk_42 (by decide +kernel)
theorem dX7_change_37 : decode cX7_change 37 = .ok (.getfield 12, 3) := dk_180 (by decide +kernel)
theorem dX7_change_40 : decode cX7_change 40 = .ok (.getfield 72, 3) := dk_180 (by decide +kernel)
theorem dX7_change_43 : decode cX7_change 43 = .ok (.getfield 91, 3) := dk_180 (by decide +kernel)
theorem dX7_change_46 : decode cX7_change 46 = .ok (.iload_n 1, 1) := dk_27 (by decide +kernel)
theorem dX7_change_47 : decode cX7_change 47 = .ok (.aaload, 1) := dk_50 (by decide +kernel)
theorem dX7_change_48 : decode cX7_change 48 = .ok (.iload_n 2, 1) := dk_28 (by decide +kernel)
theorem dX7_change_49 : decode cX7_change 49 = .ok (.iload_n 3, 1) := dk_29 (by decide +kernel)
theorem dX7_change_50 : decode cX7_change 50 = .ok (.invokevirtual 140, 3) := dk_182 (by decide +kernel)
theorem dX7_change_53 : decode cX7_change 53 = .ok (.ireturn, 1) := dk_172 (by decide +kernel)
set_option maxRecDepth 100000 in
set_option maxHeartbeats 8000000 in
theorem x_X7_change (l : Launch) (D : va_G) (y : wY) (ad : Nat → Nat) (i1 : Int32) (i2 : Int32) (i3 : Int32) (M : Mem) (K : Int32 → Mem → Prop) (h : wp_X7_change i1 i2 i3 M K) : MI l D y ad yX7_change (Cond.code yX7_change cX7_change 4 (some .int)) 2 M [.ref (ad 0), .int i1, .int i2, .int i3] K := by
  refine MI_of (by decide) (Nat.le_of_ble_eq_true rfl) ?_
  intro p e s m args below meth c X hr hlocks
  delta wp_X7_change at h
  refine j_lv (lv1 := [(0, .ref (ad 0)), (1, .int i1), (2, .int i2), (3, .int i3)]) [0, 1, 2, 3] rfl ?_
  refine j_aload_n X 0 rfl rfl dX7_change_0 ?_
  refine j_iload_n X 1 rfl rfl dX7_change_1 ?_
  refine j_callVI X (nn := 1) (As := [.int i1]) (st := []) (ci := 7) cl_0.1 (wE_7 _ cl_0.2) rfl aw_191 aw_192 (x_X7_isQuarrel l D y ad i1 _ _ h) aw_190 aw_193 aw_2 (by decide +kernel) ⟨Nat.le_of_ble_eq_true rfl, Nat.le_of_ble_eq_true rfl⟩ rfl (Nat.le_of_ble_eq_true rfl) ⟨Nat.le_of_ble_eq_true rfl, Nat.le_of_ble_eq_true rfl⟩ dX7_change_2 ?_
  intro r1 M1 h
  refine j_if_eq X 29 (by decide) dX7_change_5 (fun q_2 => ?_) (fun q_2 => ?_)
  · replace h := h.1 q_2
    refine j_aload_n X 0 rfl rfl dX7_change_29 ?_
    refine j_ldc X (v := (-1000000001)) aw_108 dX7_change_30 ?_
    refine j_callVI X (nn := 1) (As := [.int (-1000000001)]) (st := []) (ci := 7) cl_0.1 (wE_7 _ cl_0.2) rfl aw_117 aw_118 (x_X7_refuse l D y ad (-1000000001) _ _ h) aw_116 aw_119 aw_2 (by decide +kernel) ⟨Nat.le_of_ble_eq_true rfl, Nat.le_of_ble_eq_true rfl⟩ rfl (Nat.le_of_ble_eq_true rfl) ⟨Nat.le_of_ble_eq_true rfl, Nat.le_of_ble_eq_true rfl⟩ dX7_change_32 ?_
    intro r3 M3 h
    exact j_iret X hr hlocks dX7_change_35 h
  · replace h := h.2 q_2
    refine j_iload_n X 2 rfl rfl dX7_change_8 ?_
    refine j_iconst X (v := 0) (by decide) dX7_change_9 ?_
    refine j_iconst X (v := 3) (by decide) dX7_change_10 ?_
    refine j_callSI X (nn := 3) (As := [.int i2, .int 0, .int 3]) (st := []) aw_110 (x_X7_isWithin l D y ad i2 0 3 _ _ h) aw_109 aw_111 aw_2 (by decide +kernel) ⟨Nat.le_of_ble_eq_true rfl, Nat.le_of_ble_eq_true rfl⟩ rfl (Nat.le_of_ble_eq_true rfl) ⟨Nat.le_of_ble_eq_true rfl, Nat.le_of_ble_eq_true rfl⟩ dX7_change_11 ?_
    intro r4 M4 h
    refine j_if_eq X 29 (by decide) dX7_change_14 (fun q_5 => ?_) (fun q_5 => ?_)
    · replace h := h.1 q_5
      refine j_aload_n X 0 rfl rfl dX7_change_29 ?_
      refine j_ldc X (v := (-1000000001)) aw_108 dX7_change_30 ?_
      refine j_callVI X (nn := 1) (As := [.int (-1000000001)]) (st := []) (ci := 7) cl_0.1 (wE_7 _ cl_0.2) rfl aw_117 aw_118 (x_X7_refuse l D y ad (-1000000001) _ _ h) aw_116 aw_119 aw_2 (by decide +kernel) ⟨Nat.le_of_ble_eq_true rfl, Nat.le_of_ble_eq_true rfl⟩ rfl (Nat.le_of_ble_eq_true rfl) ⟨Nat.le_of_ble_eq_true rfl, Nat.le_of_ble_eq_true rfl⟩ dX7_change_32 ?_
      intro r6 M6 h
      exact j_iret X hr hlocks dX7_change_35 h
    · replace h := h.2 q_5
      refine j_iload_n X 3 rfl rfl dX7_change_17 ?_
      refine j_iconst X (v := 0) (by decide) dX7_change_18 ?_
      refine j_iload_n X 2 rfl rfl dX7_change_19 ?_
      refine j_callSI X (nn := 1) (As := [.int i2]) (st := [.int 0, .int i3]) aw_265 (x_X7_mostOfQuarrel l D y ad i2 _ _ h) aw_264 aw_266 aw_2 (by decide +kernel) ⟨Nat.le_of_ble_eq_true rfl, Nat.le_of_ble_eq_true rfl⟩ rfl (Nat.le_of_ble_eq_true rfl) ⟨Nat.le_of_ble_eq_true rfl, Nat.le_of_ble_eq_true rfl⟩ dX7_change_20 ?_
      intro r7 M7 h
      refine j_callSI X (nn := 3) (As := [.int i3, .int 0, .int r7]) (st := []) aw_110 (x_X7_isWithin l D y ad i3 0 r7 _ _ h) aw_109 aw_111 aw_2 (by decide +kernel) ⟨Nat.le_of_ble_eq_true rfl, Nat.le_of_ble_eq_true rfl⟩ rfl (Nat.le_of_ble_eq_true rfl) ⟨Nat.le_of_ble_eq_true rfl, Nat.le_of_ble_eq_true rfl⟩ dX7_change_23 ?_
      intro r8 M8 h
      refine j_if_ne X 36 (by decide) dX7_change_26 (fun q_9 => ?_) (fun q_9 => ?_)
      · replace h := h.1 q_9
        refine j_aload_n X 0 rfl rfl dX7_change_36 ?_
        refine j_get X cl_0.1 (wE_7 _ cl_0.2) rfl awF7 0 (by decide) aw_16 rfl (v := .ref (ad 1)) rfl dX7_change_37 ?_
        refine j_getN X cl_1.1 (wE_6 _ cl_1.2) rfl awF6 2 (by decide) (List.mem_of_getElem? (i := 23) rfl) rfl (v := .ref (ad 12)) rfl dX7_change_40 ?_
        refine j_getN X cl_12.1 (wE_0 _ cl_12.2) rfl awF0 2 (by decide) (List.mem_of_getElem? (i := 14) rfl) rfl (v := .ref (ad 13)) rfl dX7_change_43 ?_
        refine j_iload_n X 1 rfl rfl dX7_change_46 ?_
        obtain ⟨hi_10, h⟩ := h
        refine j_aald10 X cl_13.1 cl_13.2 hi_10 dX7_change_47 ?_
        refine j_eqr (v := (14 + i1.toNatClampNeg)) (re_13 hi_10) ?_
        have hk_11 := rc_13 hi_10
        refine j_iload_n X 2 rfl rfl dX7_change_48 ?_
        refine j_iload_n X 3 rfl rfl dX7_change_49 ?_
        refine j_callVNI X (nn := 2) (As := [.int i2, .int i3]) (st := []) (ci := 1) hk_11.1 (wE_1 _ hk_11.2) rfl aw_267 aw_268 (x_X1_changeTo l D y ad (14 + i1.toNatClampNeg) i2 i3 hk_11 _ _ h) (List.mem_of_getElem? (i := 18) rfl) aw_269 aw_65 (by decide +kernel) ⟨Nat.le_of_ble_eq_true rfl, Nat.le_of_ble_eq_true rfl⟩ rfl (Nat.le_of_ble_eq_true rfl) ⟨Nat.le_of_ble_eq_true rfl, Nat.le_of_ble_eq_true rfl⟩ dX7_change_50 ?_
        intro r12 M12 h
        exact j_iret X hr hlocks dX7_change_53 h
      · replace h := h.2 q_9
        refine j_aload_n X 0 rfl rfl dX7_change_29 ?_
        refine j_ldc X (v := (-1000000001)) aw_108 dX7_change_30 ?_
        refine j_callVI X (nn := 1) (As := [.int (-1000000001)]) (st := []) (ci := 7) cl_0.1 (wE_7 _ cl_0.2) rfl aw_117 aw_118 (x_X7_refuse l D y ad (-1000000001) _ _ h) aw_116 aw_119 aw_2 (by decide +kernel) ⟨Nat.le_of_ble_eq_true rfl, Nat.le_of_ble_eq_true rfl⟩ rfl (Nat.le_of_ble_eq_true rfl) ⟨Nat.le_of_ble_eq_true rfl, Nat.le_of_ble_eq_true rfl⟩ dX7_change_32 ?_
        intro r13 M13 h
        exact j_iret X hr hlocks dX7_change_35 h
theorem dX7_become_0 : decode cX7_become 0 = .ok (.aload_n 0, 1) := dk_42 (by decide +kernel)
theorem dX7_become_1 : decode cX7_become 1 = .ok (.iload_n 1, 1) := dk_27 (by decide +kernel)
theorem dX7_become_2 : decode cX7_become 2 = .ok (.invokevirtual 117, 3) := dk_182 (by decide +kernel)
theorem dX7_become_5 : decode cX7_become 5 = .ok (.ifCond .eq 10, 3) := dk_153 (by decide +kernel)
theorem dX7_become_15 : decode cX7_become 15 = .ok (.aload_n 0, 1) := dk_42 (by decide +kernel)
theorem dX7_become_16 : decode cX7_become 16 = .ok (.ldc 68, 2) := dk_18 (by decide +kernel)
theorem dX7_become_18 : decode cX7_become 18 = .ok (.invokevirtual 69, 3) := dk_182 (by decide +kernel)
theorem dX7_become_21 : decode cX7_become 21 = .ok (.ireturn, 1) := dk_172 (by decide +kernel)
theorem dX7_become_8 : decode cX7_become 8 = .ok (.iload_n 2, 1) := dk_28 (by decide +kernel)
theorem dX7_become_9 : decode cX7_become 9 = .ok (.invokestatic 82, 3) := dk_184 (by decide +kernel)
theorem dX7_become_12 : decode cX7_become 12 = .ok (.ifCond .ne 10, 3) := dk_154 (by decide +kernel)
theorem dX7_become_22 : decode cX7_become 22 = .ok (.aload_n 0, 1) := dk_42 (by decide +kernel)
theorem dX7_become_23 : decode cX7_become 23 = .ok (.getfield 12, 3) := dk_180 (by decide +kernel)
theorem dX7_become_26 : decode cX7_become 26 = .ok (.getfield 72, 3) := dk_180 (by decide +kernel)
theorem dX7_become_29 : decode cX7_become 29 = .ok (.getfield 91, 3) := dk_180 (by decide +kernel)
theorem dX7_become_32 : decode cX7_become 32 = .ok (.iload_n 1, 1) := dk_27 (by decide +kernel)
theorem dX7_become_33 : decode cX7_become 33 = .ok (.aaload, 1) := dk_50 (by decide +kernel)
theorem dX7_become_34 : decode cX7_become 34 = .ok (.astore_n 3, 1) := dk_78 (by decide +kernel)
theorem dX7_become_35 : decode cX7_become 35 = .ok (.aload_n 3, 1) := dk_45 (by decide +kernel)
theorem dX7_become_36 : decode cX7_become 36 = .ok (.getfield 120, 3) := dk_180 (by decide +kernel)
theorem dX7_become_39 : decode cX7_become 39 = .ok (.istore 4, 2) := dk_54 (by decide +kernel)
theorem dX7_become_41 : decode cX7_become 41 = .ok (.aload_n 3, 1) := dk_45 (by decide +kernel)
theorem dX7_become_42 : decode cX7_become 42 = .ok (.iload_n 2, 1) := dk_28 (by decide +kernel)
theorem dX7_become_43 : decode cX7_become 43 = .ok (.invokevirtual 95, 3) := dk_182 (by decide +kernel)
theorem dX7_become_46 : decode cX7_become 46 = .ok (.iload 4, 2) := dk_21 (by decide +kernel)
theorem dX7_become_48 : decode cX7_become 48 = .ok (.ireturn, 1) := dk_172 (by decide +kernel)
set_option maxRecDepth 100000 in
set_option maxHeartbeats 8000000 in
theorem x_X7_become (l : Launch) (D : va_G) (y : wY) (ad : Nat → Nat) (i1 : Int32) (i2 : Int32) (M : Mem) (K : Int32 → Mem → Prop) (h : wp_X7_become i1 i2 M K) : MI l D y ad yX7_become (Cond.code yX7_become cX7_become 5 (some .int)) 2 M [.ref (ad 0), .int i1, .int i2] K := by
  refine MI_of (by decide) (Nat.le_of_ble_eq_true rfl) ?_
  intro p e s m args below meth c X hr hlocks
  delta wp_X7_become at h
  refine j_lv (lv1 := [(0, .ref (ad 0)), (1, .int i1), (2, .int i2)]) [0, 1, 2] rfl ?_
  refine j_aload_n X 0 rfl rfl dX7_become_0 ?_
  refine j_iload_n X 1 rfl rfl dX7_become_1 ?_
  refine j_callVI X (nn := 1) (As := [.int i1]) (st := []) (ci := 7) cl_0.1 (wE_7 _ cl_0.2) rfl aw_191 aw_192 (x_X7_isQuarrel l D y ad i1 _ _ h) aw_190 aw_193 aw_2 (by decide +kernel) ⟨Nat.le_of_ble_eq_true rfl, Nat.le_of_ble_eq_true rfl⟩ rfl (Nat.le_of_ble_eq_true rfl) ⟨Nat.le_of_ble_eq_true rfl, Nat.le_of_ble_eq_true rfl⟩ dX7_become_2 ?_
  intro r1 M1 h
  refine j_if_eq X 15 (by decide) dX7_become_5 (fun q_2 => ?_) (fun q_2 => ?_)
  · replace h := h.1 q_2
    refine j_aload_n X 0 rfl rfl dX7_become_15 ?_
    refine j_ldc X (v := (-1000000001)) aw_108 dX7_become_16 ?_
    refine j_callVI X (nn := 1) (As := [.int (-1000000001)]) (st := []) (ci := 7) cl_0.1 (wE_7 _ cl_0.2) rfl aw_117 aw_118 (x_X7_refuse l D y ad (-1000000001) _ _ h) aw_116 aw_119 aw_2 (by decide +kernel) ⟨Nat.le_of_ble_eq_true rfl, Nat.le_of_ble_eq_true rfl⟩ rfl (Nat.le_of_ble_eq_true rfl) ⟨Nat.le_of_ble_eq_true rfl, Nat.le_of_ble_eq_true rfl⟩ dX7_become_18 ?_
    intro r3 M3 h
    exact j_iret X hr hlocks dX7_become_21 h
  · replace h := h.2 q_2
    refine j_iload_n X 2 rfl rfl dX7_become_8 ?_
    refine j_callSI X (nn := 1) (As := [.int i2]) (st := []) aw_170 (x_X7_isKindAndM l D y ad i2 _ _ h) aw_169 aw_171 aw_2 (by decide +kernel) ⟨Nat.le_of_ble_eq_true rfl, Nat.le_of_ble_eq_true rfl⟩ rfl (Nat.le_of_ble_eq_true rfl) ⟨Nat.le_of_ble_eq_true rfl, Nat.le_of_ble_eq_true rfl⟩ dX7_become_9 ?_
    intro r4 M4 h
    refine j_if_ne X 22 (by decide) dX7_become_12 (fun q_5 => ?_) (fun q_5 => ?_)
    · replace h := h.1 q_5
      refine j_aload_n X 0 rfl rfl dX7_become_22 ?_
      refine j_get X cl_0.1 (wE_7 _ cl_0.2) rfl awF7 0 (by decide) aw_16 rfl (v := .ref (ad 1)) rfl dX7_become_23 ?_
      refine j_getN X cl_1.1 (wE_6 _ cl_1.2) rfl awF6 2 (by decide) (List.mem_of_getElem? (i := 23) rfl) rfl (v := .ref (ad 12)) rfl dX7_become_26 ?_
      refine j_getN X cl_12.1 (wE_0 _ cl_12.2) rfl awF0 2 (by decide) (List.mem_of_getElem? (i := 14) rfl) rfl (v := .ref (ad 13)) rfl dX7_become_29 ?_
      refine j_iload_n X 1 rfl rfl dX7_become_32 ?_
      obtain ⟨hi_6, h⟩ := h
      refine j_aald10 X cl_13.1 cl_13.2 hi_6 dX7_become_33 ?_
      refine j_eqr (v := (14 + i1.toNatClampNeg)) (re_13 hi_6) ?_
      have hk_7 := rc_13 hi_6
      refine j_astore_n X [(3, .ref (ad (14 + i1.toNatClampNeg))), (0, .ref (ad 0)), (1, .int i1), (2, .int i2)] rfl (by decide) rfl dX7_become_34 ?_
      refine j_aload_n X 0 rfl rfl dX7_become_35 ?_
      refine j_getN X hk_7.1 (wE_1 _ hk_7.2) rfl awF1 0 (by decide) (List.mem_of_getElem? (i := 1) rfl) rfl (v := .int (M4 (14 + i1.toNatClampNeg) 0)) rfl dX7_become_36 ?_
      refine j_istore X [(4, .int (M4 (14 + i1.toNatClampNeg) 0)), (3, .ref (ad (14 + i1.toNatClampNeg))), (0, .ref (ad 0)), (1, .int i1), (2, .int i2)] (by decide) rfl dX7_become_39 ?_
      refine j_aload_n X 1 rfl rfl dX7_become_41 ?_
      refine j_iload_n X 4 rfl rfl dX7_become_42 ?_
      refine j_callVNV X (nn := 1) (As := [.int i2]) (st := []) (ci := 1) hk_7.1 (wE_1 _ hk_7.2) rfl aw_172 aw_173 (x_X1_turnInto l D y ad (14 + i1.toNatClampNeg) i2 hk_7 _ _ h) (List.mem_of_getElem? (i := 12) rfl) aw_174 aw_65 (by decide +kernel) ⟨Nat.le_of_ble_eq_true rfl, Nat.le_of_ble_eq_true rfl⟩ rfl (Nat.le_of_ble_eq_true rfl) ⟨Nat.le_of_ble_eq_true rfl, Nat.le_of_ble_eq_true rfl⟩ dX7_become_43 ?_
      intro M8 h
      refine j_iload X 0 rfl dX7_become_46 ?_
      exact j_iret X hr hlocks dX7_become_48 h
    · replace h := h.2 q_5
      refine j_aload_n X 0 rfl rfl dX7_become_15 ?_
      refine j_ldc X (v := (-1000000001)) aw_108 dX7_become_16 ?_
      refine j_callVI X (nn := 1) (As := [.int (-1000000001)]) (st := []) (ci := 7) cl_0.1 (wE_7 _ cl_0.2) rfl aw_117 aw_118 (x_X7_refuse l D y ad (-1000000001) _ _ h) aw_116 aw_119 aw_2 (by decide +kernel) ⟨Nat.le_of_ble_eq_true rfl, Nat.le_of_ble_eq_true rfl⟩ rfl (Nat.le_of_ble_eq_true rfl) ⟨Nat.le_of_ble_eq_true rfl, Nat.le_of_ble_eq_true rfl⟩ dX7_become_18 ?_
      intro r9 M9 h
      exact j_iret X hr hlocks dX7_become_21 h
theorem dX7_as_0 : decode cX7_as 0 = .ok (.aload_n 0, 1) := dk_42 (by decide +kernel)
theorem dX7_as_1 : decode cX7_as 1 = .ok (.iload_n 1, 1) := dk_27 (by decide +kernel)
theorem dX7_as_2 : decode cX7_as 2 = .ok (.invokevirtual 117, 3) := dk_182 (by decide +kernel)
theorem dX7_as_5 : decode cX7_as 5 = .ok (.ifCond .eq 13, 3) := dk_153 (by decide +kernel)
theorem dX7_as_18 : decode cX7_as 18 = .ok (.aload_n 0, 1) := dk_42 (by decide +kernel)
theorem dX7_as_19 : decode cX7_as 19 = .ok (.ldc 68, 2) := dk_18 (by decide +kernel)
theorem dX7_as_21 : decode cX7_as 21 = .ok (.invokevirtual 69, 3) := dk_182 (by decide +kernel)
theorem dX7_as_24 : decode cX7_as 24 = .ok (.ireturn, 1) := dk_172 (by decide +kernel)
theorem dX7_as_8 : decode cX7_as 8 = .ok (.iload_n 2, 1) := dk_28 (by decide +kernel)
theorem dX7_as_9 : decode cX7_as 9 = .ok (.iconst 0, 1) := dk_3 (by decide +kernel)
theorem dX7_as_10 : decode cX7_as 10 = .ok (.bipush 6, 2) := dk_16 (by decide +kernel)
theorem dX7_as_12 : decode cX7_as 12 = .ok (.invokestatic 60, 3) := dk_184 (by decide +kernel)
theorem dX7_as_15 : decode cX7_as 15 = .ok (.ifCond .ne 10, 3) := dk_154 (by decide +kernel)
theorem dX7_as_25 : decode cX7_as 25 = .ok (.aload_n 0, 1) := dk_42 (by decide +kernel)
theorem dX7_as_26 : decode cX7_as 26 = .ok (.getfield 12, 3) := dk_180 (by decide +kernel)
theorem dX7_as_29 : decode cX7_as 29 = .ok (.getfield 72, 3) := dk_180 (by decide +kernel)
theorem dX7_as_32 : decode cX7_as 32 = .ok (.getfield 91, 3) := dk_180 (by decide +kernel)
theorem dX7_as_35 : decode cX7_as 35 = .ok (.iload_n 1, 1) := dk_27 (by decide +kernel)
theorem dX7_as_36 : decode cX7_as 36 = .ok (.aaload, 1) := dk_50 (by decide +kernel)
theorem dX7_as_37 : decode cX7_as 37 = .ok (.astore_n 3, 1) := dk_78 (by decide +kernel)
theorem dX7_as_38 : decode cX7_as 38 = .ok (.aload_n 3, 1) := dk_45 (by decide +kernel)
theorem dX7_as_39 : decode cX7_as 39 = .ok (.iload_n 2, 1) := dk_28 (by decide +kernel)
theorem dX7_as_40 : decode cX7_as 40 = .ok (.invokevirtual 143, 3) := dk_182 (by decide +kernel)
theorem dX7_as_43 : decode cX7_as 43 = .ok (.ifCond .eq 10, 3) := dk_153 (by decide +kernel)
theorem dX7_as_53 : decode cX7_as 53 = .ok (.aload_n 0, 1) := dk_42 (by decide +kernel)
theorem dX7_as_54 : decode cX7_as 54 = .ok (.ldc 146, 2) := dk_18 (by decide +kernel)
theorem dX7_as_56 : decode cX7_as 56 = .ok (.invokevirtual 69, 3) := dk_182 (by decide +kernel)
theorem dX7_as_59 : decode cX7_as 59 = .ok (.ireturn, 1) := dk_172 (by decide +kernel)
theorem dX7_as_46 : decode cX7_as 46 = .ok (.aload_n 3, 1) := dk_45 (by decide +kernel)
theorem dX7_as_47 : decode cX7_as 47 = .ok (.getfield 123, 3) := dk_180 (by decide +kernel)
theorem dX7_as_50 : decode cX7_as 50 = .ok (.goto 9, 3) := dk_167 (by decide +kernel)
set_option maxRecDepth 100000 in
set_option maxHeartbeats 8000000 in
theorem x_X7_as (l : Launch) (D : va_G) (y : wY) (ad : Nat → Nat) (i1 : Int32) (i2 : Int32) (M : Mem) (K : Int32 → Mem → Prop) (h : wp_X7_as i1 i2 M K) : MI l D y ad yX7_as (Cond.code yX7_as cX7_as 4 (some .int)) 2 M [.ref (ad 0), .int i1, .int i2] K := by
  refine MI_of (by decide) (Nat.le_of_ble_eq_true rfl) ?_
  intro p e s m args below meth c X hr hlocks
  delta wp_X7_as at h
  refine j_lv (lv1 := [(0, .ref (ad 0)), (1, .int i1), (2, .int i2)]) [0, 1, 2] rfl ?_
  refine j_aload_n X 0 rfl rfl dX7_as_0 ?_
  refine j_iload_n X 1 rfl rfl dX7_as_1 ?_
  refine j_callVI X (nn := 1) (As := [.int i1]) (st := []) (ci := 7) cl_0.1 (wE_7 _ cl_0.2) rfl aw_191 aw_192 (x_X7_isQuarrel l D y ad i1 _ _ h) aw_190 aw_193 aw_2 (by decide +kernel) ⟨Nat.le_of_ble_eq_true rfl, Nat.le_of_ble_eq_true rfl⟩ rfl (Nat.le_of_ble_eq_true rfl) ⟨Nat.le_of_ble_eq_true rfl, Nat.le_of_ble_eq_true rfl⟩ dX7_as_2 ?_
  intro r1 M1 h
  refine j_if_eq X 18 (by decide) dX7_as_5 (fun q_2 => ?_) (fun q_2 => ?_)
  · replace h := h.1 q_2
    refine j_aload_n X 0 rfl rfl dX7_as_18 ?_
    refine j_ldc X (v := (-1000000001)) aw_108 dX7_as_19 ?_
    refine j_callVI X (nn := 1) (As := [.int (-1000000001)]) (st := []) (ci := 7) cl_0.1 (wE_7 _ cl_0.2) rfl aw_117 aw_118 (x_X7_refuse l D y ad (-1000000001) _ _ h) aw_116 aw_119 aw_2 (by decide +kernel) ⟨Nat.le_of_ble_eq_true rfl, Nat.le_of_ble_eq_true rfl⟩ rfl (Nat.le_of_ble_eq_true rfl) ⟨Nat.le_of_ble_eq_true rfl, Nat.le_of_ble_eq_true rfl⟩ dX7_as_21 ?_
    intro r3 M3 h
    exact j_iret X hr hlocks dX7_as_24 h
  · replace h := h.2 q_2
    refine j_iload_n X 2 rfl rfl dX7_as_8 ?_
    refine j_iconst X (v := 0) (by decide) dX7_as_9 ?_
    refine j_bipush X (v := 6) (by decide) dX7_as_10 ?_
    refine j_callSI X (nn := 3) (As := [.int i2, .int 0, .int 6]) (st := []) aw_110 (x_X7_isWithin l D y ad i2 0 6 _ _ h) aw_109 aw_111 aw_2 (by decide +kernel) ⟨Nat.le_of_ble_eq_true rfl, Nat.le_of_ble_eq_true rfl⟩ rfl (Nat.le_of_ble_eq_true rfl) ⟨Nat.le_of_ble_eq_true rfl, Nat.le_of_ble_eq_true rfl⟩ dX7_as_12 ?_
    intro r4 M4 h
    refine j_if_ne X 25 (by decide) dX7_as_15 (fun q_5 => ?_) (fun q_5 => ?_)
    · replace h := h.1 q_5
      refine j_aload_n X 0 rfl rfl dX7_as_25 ?_
      refine j_get X cl_0.1 (wE_7 _ cl_0.2) rfl awF7 0 (by decide) aw_16 rfl (v := .ref (ad 1)) rfl dX7_as_26 ?_
      refine j_getN X cl_1.1 (wE_6 _ cl_1.2) rfl awF6 2 (by decide) (List.mem_of_getElem? (i := 23) rfl) rfl (v := .ref (ad 12)) rfl dX7_as_29 ?_
      refine j_getN X cl_12.1 (wE_0 _ cl_12.2) rfl awF0 2 (by decide) (List.mem_of_getElem? (i := 14) rfl) rfl (v := .ref (ad 13)) rfl dX7_as_32 ?_
      refine j_iload_n X 1 rfl rfl dX7_as_35 ?_
      obtain ⟨hi_6, h⟩ := h
      refine j_aald10 X cl_13.1 cl_13.2 hi_6 dX7_as_36 ?_
      refine j_eqr (v := (14 + i1.toNatClampNeg)) (re_13 hi_6) ?_
      have hk_7 := rc_13 hi_6
      refine j_astore_n X [(3, .ref (ad (14 + i1.toNatClampNeg))), (0, .ref (ad 0)), (1, .int i1), (2, .int i2)] rfl (by decide) rfl dX7_as_37 ?_
      refine j_aload_n X 0 rfl rfl dX7_as_38 ?_
      refine j_iload_n X 3 rfl rfl dX7_as_39 ?_
      refine j_callVNI X (nn := 1) (As := [.int i2]) (st := []) (ci := 1) hk_7.1 (wE_1 _ hk_7.2) rfl aw_290 aw_291 (x_X1_isOfKind l D y ad (14 + i1.toNatClampNeg) i2 hk_7 _ _ h) (List.mem_of_getElem? (i := 19) rfl) aw_292 aw_65 (by decide +kernel) ⟨Nat.le_of_ble_eq_true rfl, Nat.le_of_ble_eq_true rfl⟩ rfl (Nat.le_of_ble_eq_true rfl) ⟨Nat.le_of_ble_eq_true rfl, Nat.le_of_ble_eq_true rfl⟩ dX7_as_40 ?_
      intro r8 M8 h
      refine j_if_eq X 53 (by decide) dX7_as_43 (fun q_9 => ?_) (fun q_9 => ?_)
      · replace h := h.1 q_9
        refine j_aload_n X 1 rfl rfl dX7_as_53 ?_
        refine j_ldc X (v := (-1000000005)) aw_289 dX7_as_54 ?_
        refine j_callVI X (nn := 1) (As := [.int (-1000000005)]) (st := []) (ci := 7) cl_0.1 (wE_7 _ cl_0.2) rfl aw_117 aw_118 (x_X7_refuse l D y ad (-1000000005) _ _ h) aw_116 aw_119 aw_2 (by decide +kernel) ⟨Nat.le_of_ble_eq_true rfl, Nat.le_of_ble_eq_true rfl⟩ rfl (Nat.le_of_ble_eq_true rfl) ⟨Nat.le_of_ble_eq_true rfl, Nat.le_of_ble_eq_true rfl⟩ dX7_as_56 ?_
        intro r10 M10 h
        exact j_iret X hr hlocks dX7_as_59 h
      · replace h := h.2 q_9
        refine j_aload_n X 0 rfl rfl dX7_as_46 ?_
        refine j_getN X hk_7.1 (wE_1 _ hk_7.2) rfl awF1 1 (by decide) (List.mem_of_getElem? (i := 2) rfl) rfl (v := .int (M8 (14 + i1.toNatClampNeg) 1)) rfl dX7_as_47 ?_
        refine j_goto X 59 (by decide) dX7_as_50 ?_
        exact j_iret X hr hlocks dX7_as_59 h
    · replace h := h.2 q_5
      refine j_aload_n X 0 rfl rfl dX7_as_18 ?_
      refine j_ldc X (v := (-1000000001)) aw_108 dX7_as_19 ?_
      refine j_callVI X (nn := 1) (As := [.int (-1000000001)]) (st := []) (ci := 7) cl_0.1 (wE_7 _ cl_0.2) rfl aw_117 aw_118 (x_X7_refuse l D y ad (-1000000001) _ _ h) aw_116 aw_119 aw_2 (by decide +kernel) ⟨Nat.le_of_ble_eq_true rfl, Nat.le_of_ble_eq_true rfl⟩ rfl (Nat.le_of_ble_eq_true rfl) ⟨Nat.le_of_ble_eq_true rfl, Nat.le_of_ble_eq_true rfl⟩ dX7_as_21 ?_
      intro r11 M11 h
      exact j_iret X hr hlocks dX7_as_24 h
theorem dX7_feed_41 : decode cX7_feed 41 = .ok (.iload 4, 2) := dk_21 (by decide +kernel)
theorem dX7_feed_43 : decode cX7_feed 43 = .ok (.iload_n 3, 1) := dk_29 (by decide +kernel)
theorem dX7_feed_44 : decode cX7_feed 44 = .ok (.if_icmp .ge 39, 3) := dk_162 (by decide +kernel)
theorem dX7_feed_83 : decode cX7_feed 83 = .ok (.aload_n 0, 1) := dk_42 (by decide +kernel)
theorem dX7_feed_84 : decode cX7_feed 84 = .ok (.getfield 12, 3) := dk_180 (by decide +kernel)
theorem dX7_feed_87 : decode cX7_feed 87 = .ok (.dup, 1) := dk_89 (by decide +kernel)
theorem dX7_feed_88 : decode cX7_feed 88 = .ok (.getfield 147, 3) := dk_180 (by decide +kernel)
theorem dX7_feed_91 : decode cX7_feed 91 = .ok (.iload_n 3, 1) := dk_29 (by decide +kernel)
theorem dX7_feed_92 : decode cX7_feed 92 = .ok (.iadd, 1) := dk_96 (by decide +kernel)
theorem dX7_feed_93 : decode cX7_feed 93 = .ok (.putfield 147, 3) := dk_181 (by decide +kernel)
theorem dX7_feed_96 : decode cX7_feed 96 = .ok (.aload_n 0, 1) := dk_42 (by decide +kernel)
theorem dX7_feed_97 : decode cX7_feed 97 = .ok (.getfield 12, 3) := dk_180 (by decide +kernel)
theorem dX7_feed_100 : decode cX7_feed 100 = .ok (.getfield 147, 3) := dk_180 (by decide +kernel)
theorem dX7_feed_103 : decode cX7_feed 103 = .ok (.ireturn, 1) := dk_172 (by decide +kernel)
theorem dX7_feed_47 : decode cX7_feed 47 = .ok (.aload_n 0, 1) := dk_42 (by decide +kernel)
theorem dX7_feed_48 : decode cX7_feed 48 = .ok (.getfield 12, 3) := dk_180 (by decide +kernel)
theorem dX7_feed_51 : decode cX7_feed 51 = .ok (.getfield 150, 3) := dk_180 (by decide +kernel)
theorem dX7_feed_54 : decode cX7_feed 54 = .ok (.aload_n 0, 1) := dk_42 (by decide +kernel)
theorem dX7_feed_55 : decode cX7_feed 55 = .ok (.getfield 12, 3) := dk_180 (by decide +kernel)
theorem dX7_feed_58 : decode cX7_feed 58 = .ok (.getfield 147, 3) := dk_180 (by decide +kernel)
theorem dX7_feed_61 : decode cX7_feed 61 = .ok (.iload 4, 2) := dk_21 (by decide +kernel)
theorem dX7_feed_63 : decode cX7_feed 63 = .ok (.iadd, 1) := dk_96 (by decide +kernel)
theorem dX7_feed_64 : decode cX7_feed 64 = .ok (.lload_n 1, 1) := by decide +kernel
theorem dX7_feed_65 : decode cX7_feed 65 = .ok (.bipush 8, 2) := dk_16 (by decide +kernel)
theorem dX7_feed_67 : decode cX7_feed 67 = .ok (.iload 4, 2) := dk_21 (by decide +kernel)
theorem dX7_feed_69 : decode cX7_feed 69 = .ok (.imul, 1) := dk_104 (by decide +kernel)
theorem dX7_feed_70 : decode cX7_feed 70 = .ok (.lushr, 1) := by decide +kernel
theorem dX7_feed_71 : decode cX7_feed 71 = .ok (.l2i, 1) := dk_136 (by decide +kernel)
theorem dX7_feed_72 : decode cX7_feed 72 = .ok (.sipush 255, 3) := dk_17 (by decide +kernel)
theorem dX7_feed_75 : decode cX7_feed 75 = .ok (.iand, 1) := dk_126 (by decide +kernel)
theorem dX7_feed_76 : decode cX7_feed 76 = .ok (.iastore, 1) := dk_79 (by decide +kernel)
theorem dX7_feed_77 : decode cX7_feed 77 = .ok (.iinc 4 1, 3) := dk_132 (by decide +kernel)
theorem dX7_feed_80 : decode cX7_feed 80 = .ok (.goto (-39), 3) := dk_167 (by decide +kernel)
theorem dX7_feed_0 : decode cX7_feed 0 = .ok (.iload_n 3, 1) := dk_29 (by decide +kernel)
theorem dX7_feed_1 : decode cX7_feed 1 = .ok (.iconst 1, 1) := dk_4 (by decide +kernel)
theorem dX7_feed_2 : decode cX7_feed 2 = .ok (.bipush 8, 2) := dk_16 (by decide +kernel)
theorem dX7_feed_4 : decode cX7_feed 4 = .ok (.invokestatic 60, 3) := dk_184 (by decide +kernel)
theorem dX7_feed_7 : decode cX7_feed 7 = .ok (.ifCond .ne 10, 3) := dk_154 (by decide +kernel)
theorem dX7_feed_17 : decode cX7_feed 17 = .ok (.aload_n 0, 1) := dk_42 (by decide +kernel)
theorem dX7_feed_18 : decode cX7_feed 18 = .ok (.getfield 12, 3) := dk_180 (by decide +kernel)
theorem dX7_feed_21 : decode cX7_feed 21 = .ok (.getfield 147, 3) := dk_180 (by decide +kernel)
theorem dX7_feed_24 : decode cX7_feed 24 = .ok (.iload_n 3, 1) := dk_29 (by decide +kernel)
theorem dX7_feed_25 : decode cX7_feed 25 = .ok (.iadd, 1) := dk_96 (by decide +kernel)
theorem dX7_feed_26 : decode cX7_feed 26 = .ok (.bipush 50, 2) := dk_16 (by decide +kernel)
theorem dX7_feed_28 : decode cX7_feed 28 = .ok (.if_icmp .le 10, 3) := dk_164 (by decide +kernel)
theorem dX7_feed_38 : decode cX7_feed 38 = .ok (.iconst 0, 1) := dk_3 (by decide +kernel)
theorem dX7_feed_39 : decode cX7_feed 39 = .ok (.istore 4, 2) := dk_54 (by decide +kernel)
theorem dX7_feed_31 : decode cX7_feed 31 = .ok (.aload_n 0, 1) := dk_42 (by decide +kernel)
theorem dX7_feed_32 : decode cX7_feed 32 = .ok (.ldc 90, 2) := dk_18 (by decide +kernel)
theorem dX7_feed_34 : decode cX7_feed 34 = .ok (.invokevirtual 69, 3) := dk_182 (by decide +kernel)
theorem dX7_feed_37 : decode cX7_feed 37 = .ok (.ireturn, 1) := dk_172 (by decide +kernel)
theorem dX7_feed_10 : decode cX7_feed 10 = .ok (.aload_n 0, 1) := dk_42 (by decide +kernel)
theorem dX7_feed_11 : decode cX7_feed 11 = .ok (.ldc 68, 2) := dk_18 (by decide +kernel)
theorem dX7_feed_13 : decode cX7_feed 13 = .ok (.invokevirtual 69, 3) := dk_182 (by decide +kernel)
theorem dX7_feed_16 : decode cX7_feed 16 = .ok (.ireturn, 1) := dk_172 (by decide +kernel)
set_option maxRecDepth 100000 in
set_option maxHeartbeats 8000000 in
theorem x_X7_feed (l : Launch) (D : va_G) (y : wY) (ad : Nat → Nat) (w1 : Int64) (i3 : Int32) (M : Mem) (K : Int32 → Mem → Prop) (h : wp_X7_feed w1 i3 M K) : MI l D y ad yX7_feed (Cond.code yX7_feed cX7_feed 5 (some .int)) 1 M [.ref (ad 0), .long w1, .int i3] K := by
  refine MI_of (by decide) (Nat.le_of_ble_eq_true rfl) ?_
  intro p e s m args below meth c X hr hlocks
  have hL41 : ∀ (w1 : Int64) (i3 : Int32) (n : Nat) (i4 : Int32) (Mb : Mem), wp_X7_feed_L41 K w1 i3 n i4 Mb → J p l e (rmN 1) s m args below meth c 0 0 (QI K D y ad M s args below) D y ad (va_A (PL y ad M) s.heap.size) 5 Mb 41 [(0, .ref (ad 0)), (1, .long w1), (3, .int i3), (4, .int i4)] [] := by
    intro w1 i3 n
    induction n with
    | zero => intro i4 Mb h; exact False.elim h
    | succ n hB41 =>
      intro i4 Mb h
      replace h : wp_X7_feed_l41 K w1 i3 (wp_X7_feed_L41 K w1 i3 n) i4 Mb := h
      delta wp_X7_feed_l41 at h
      refine j_iload X 3 rfl dX7_feed_41 ?_
      refine j_iload_n X 2 rfl rfl dX7_feed_43 ?_
      refine j_icmp_ge X 83 (by decide) dX7_feed_44 (fun q_4101 => ?_) (fun q_4101 => ?_)
      · replace h := h.1 q_4101
        refine j_aload_n X 0 rfl rfl dX7_feed_83 ?_
        refine j_get X cl_0.1 (wE_7 _ cl_0.2) rfl awF7 0 (by decide) aw_16 rfl (v := .ref (ad 1)) rfl dX7_feed_84 ?_
        refine j_dup X rfl dX7_feed_87 ?_
        refine j_getN X cl_1.1 (wE_6 _ cl_1.2) rfl awF6 5 (by decide) (List.mem_of_getElem? (i := 26) rfl) rfl (v := .int (Mb 1 5)) rfl dX7_feed_88 ?_
        refine j_iload_n X 2 rfl rfl dX7_feed_91 ?_
        refine j_iadd X dX7_feed_92 ?_
        refine j_putN X (up Mb 1 5 ((Mb 1 5) + i3)) up_o cl_1.1 (wE_6 _ cl_1.2) rfl awF6 5 (by decide) (wP_6_5 _ _ cl_1.2) tyX6 tyX6_ok nmX6 rfl (ty := .int) (by decide +kernel) rfl rfl (Nat.le_of_ble_eq_true rfl) (List.mem_of_getElem? (i := 26) rfl) rfl dX7_feed_93 ?_
        refine j_aload_n X 0 rfl rfl dX7_feed_96 ?_
        refine j_get X cl_0.1 (wE_7 _ cl_0.2) rfl awF7 0 (by decide) aw_16 rfl (v := .ref (ad 1)) rfl dX7_feed_97 ?_
        refine j_getN X cl_1.1 (wE_6 _ cl_1.2) rfl awF6 5 (by decide) (List.mem_of_getElem? (i := 26) rfl) rfl (v := .int ((up Mb 1 5 ((Mb 1 5) + i3)) 1 5)) rfl dX7_feed_100 ?_
        exact j_iret X hr hlocks dX7_feed_103 h
      · replace h := h.2 q_4101
        refine j_aload_n X 0 rfl rfl dX7_feed_47 ?_
        refine j_get X cl_0.1 (wE_7 _ cl_0.2) rfl awF7 0 (by decide) aw_16 rfl (v := .ref (ad 1)) rfl dX7_feed_48 ?_
        refine j_getN X cl_1.1 (wE_6 _ cl_1.2) rfl awF6 3 (by decide) (List.mem_of_getElem? (i := 24) rfl) rfl (v := .ref (ad 23)) rfl dX7_feed_51 ?_
        refine j_aload_n X 0 rfl rfl dX7_feed_54 ?_
        refine j_get X cl_0.1 (wE_7 _ cl_0.2) rfl awF7 0 (by decide) aw_16 rfl (v := .ref (ad 1)) rfl dX7_feed_55 ?_
        refine j_getN X cl_1.1 (wE_6 _ cl_1.2) rfl awF6 5 (by decide) (List.mem_of_getElem? (i := 26) rfl) rfl (v := .int (Mb 1 5)) rfl dX7_feed_58 ?_
        refine j_iload X 3 rfl dX7_feed_61 ?_
        refine j_iadd X dX7_feed_63 ?_
        refine j_lload_n X 1 rfl rfl dX7_feed_64 ?_
        refine j_bipush X (v := 8) (by decide) dX7_feed_65 ?_
        refine j_iload X 3 rfl dX7_feed_67 ?_
        refine j_imul X dX7_feed_69 ?_
        refine j_lushr X dX7_feed_70 ?_
        refine j_l2i X dX7_feed_71 ?_
        refine j_sipush X (v := 255) (by decide) dX7_feed_72 ?_
        refine j_iand X dX7_feed_75 ?_
        obtain ⟨hi_4102, h⟩ := h
        refine j_iast X cl_23.1 cl_23.2 hi_4102 dX7_feed_76 ?_
        refine j_topM (fun Mg_4103 eMg_4103 => ?_)
        replace h := h Mg_4103 eMg_4103
        refine j_iinc X (v := (i4 + 1)) 3 [(4, .int (i4 + 1)), (0, .ref (ad 0)), (1, .long w1), (3, .int i3)] rfl rfl (by decide) rfl dX7_feed_77 ?_
        refine j_goto X 41 (by decide) dX7_feed_80 ?_
        refine j_lv (lv1 := [(0, .ref (ad 0)), (1, .long w1), (3, .int i3), (4, .int (i4 + 1))]) [1, 2, 3, 0] rfl ?_
        exact hB41 _ _ h
  delta wp_X7_feed at h
  refine j_lv (lv1 := [(0, .ref (ad 0)), (1, .long w1), (3, .int i3)]) [0, 1, 2] rfl ?_
  refine j_iload_n X 2 rfl rfl dX7_feed_0 ?_
  refine j_iconst X (v := 1) (by decide) dX7_feed_1 ?_
  refine j_bipush X (v := 8) (by decide) dX7_feed_2 ?_
  refine j_callSI X (nn := 3) (As := [.int i3, .int 1, .int 8]) (st := []) aw_110 (x_X7_isWithin l D y ad i3 1 8 _ _ h) aw_109 aw_111 aw_2 (by decide +kernel) ⟨Nat.le_of_ble_eq_true rfl, Nat.le_of_ble_eq_true rfl⟩ rfl (Nat.le_of_ble_eq_true rfl) ⟨Nat.le_of_ble_eq_true rfl, Nat.le_of_ble_eq_true rfl⟩ dX7_feed_4 ?_
  intro r1 M1 h
  refine j_if_ne X 17 (by decide) dX7_feed_7 (fun q_2 => ?_) (fun q_2 => ?_)
  · replace h := h.1 q_2
    refine j_aload_n X 0 rfl rfl dX7_feed_17 ?_
    refine j_get X cl_0.1 (wE_7 _ cl_0.2) rfl awF7 0 (by decide) aw_16 rfl (v := .ref (ad 1)) rfl dX7_feed_18 ?_
    refine j_getN X cl_1.1 (wE_6 _ cl_1.2) rfl awF6 5 (by decide) (List.mem_of_getElem? (i := 26) rfl) rfl (v := .int (M1 1 5)) rfl dX7_feed_21 ?_
    refine j_iload_n X 2 rfl rfl dX7_feed_24 ?_
    refine j_iadd X dX7_feed_25 ?_
    refine j_bipush X (v := 50) (by decide) dX7_feed_26 ?_
    refine j_icmp_le X 38 (by decide) dX7_feed_28 (fun q_3 => ?_) (fun q_3 => ?_)
    · replace h := h.1 q_3
      refine j_iconst X (v := 0) (by decide) dX7_feed_38 ?_
      refine j_istore X [(4, .int 0), (0, .ref (ad 0)), (1, .long w1), (3, .int i3)] (by decide) rfl dX7_feed_39 ?_
      refine j_lv (lv1 := [(0, .ref (ad 0)), (1, .long w1), (3, .int i3), (4, .int 0)]) [1, 2, 3, 0] rfl ?_
      obtain ⟨n41, h⟩ := h
      exact hL41 _ _   n41 _ _ h
    · replace h := h.2 q_3
      refine j_aload_n X 0 rfl rfl dX7_feed_31 ?_
      refine j_ldc X (v := (-1000000004)) aw_168 dX7_feed_32 ?_
      refine j_callVI X (nn := 1) (As := [.int (-1000000004)]) (st := []) (ci := 7) cl_0.1 (wE_7 _ cl_0.2) rfl aw_117 aw_118 (x_X7_refuse l D y ad (-1000000004) _ _ h) aw_116 aw_119 aw_2 (by decide +kernel) ⟨Nat.le_of_ble_eq_true rfl, Nat.le_of_ble_eq_true rfl⟩ rfl (Nat.le_of_ble_eq_true rfl) ⟨Nat.le_of_ble_eq_true rfl, Nat.le_of_ble_eq_true rfl⟩ dX7_feed_34 ?_
      intro r4 M4 h
      exact j_iret X hr hlocks dX7_feed_37 h
  · replace h := h.2 q_2
    refine j_aload_n X 0 rfl rfl dX7_feed_10 ?_
    refine j_ldc X (v := (-1000000001)) aw_108 dX7_feed_11 ?_
    refine j_callVI X (nn := 1) (As := [.int (-1000000001)]) (st := []) (ci := 7) cl_0.1 (wE_7 _ cl_0.2) rfl aw_117 aw_118 (x_X7_refuse l D y ad (-1000000001) _ _ h) aw_116 aw_119 aw_2 (by decide +kernel) ⟨Nat.le_of_ble_eq_true rfl, Nat.le_of_ble_eq_true rfl⟩ rfl (Nat.le_of_ble_eq_true rfl) ⟨Nat.le_of_ble_eq_true rfl, Nat.le_of_ble_eq_true rfl⟩ dX7_feed_13 ?_
    intro r5 M5 h
    exact j_iret X hr hlocks dX7_feed_16 h
theorem dX7_text_0 : decode cX7_text 0 = .ok (.iload_n 1, 1) := dk_27 (by decide +kernel)
theorem dX7_text_1 : decode cX7_text 1 = .ok (.iconst 0, 1) := dk_3 (by decide +kernel)
theorem dX7_text_2 : decode cX7_text 2 = .ok (.iconst 1, 1) := dk_4 (by decide +kernel)
theorem dX7_text_3 : decode cX7_text 3 = .ok (.invokestatic 60, 3) := dk_184 (by decide +kernel)
theorem dX7_text_6 : decode cX7_text 6 = .ok (.ifCond .ne 10, 3) := dk_154 (by decide +kernel)
theorem dX7_text_16 : decode cX7_text 16 = .ok (.aload_n 0, 1) := dk_42 (by decide +kernel)
theorem dX7_text_17 : decode cX7_text 17 = .ok (.getfield 38, 3) := dk_180 (by decide +kernel)
theorem dX7_text_20 : decode cX7_text 20 = .ok (.aload_n 0, 1) := dk_42 (by decide +kernel)
theorem dX7_text_21 : decode cX7_text 21 = .ok (.getfield 12, 3) := dk_180 (by decide +kernel)
theorem dX7_text_24 : decode cX7_text 24 = .ok (.getfield 150, 3) := dk_180 (by decide +kernel)
theorem dX7_text_27 : decode cX7_text 27 = .ok (.aload_n 0, 1) := dk_42 (by decide +kernel)
theorem dX7_text_28 : decode cX7_text 28 = .ok (.getfield 12, 3) := dk_180 (by decide +kernel)
theorem dX7_text_31 : decode cX7_text 31 = .ok (.getfield 147, 3) := dk_180 (by decide +kernel)
theorem dX7_text_34 : decode cX7_text 34 = .ok (.iload_n 1, 1) := dk_27 (by decide +kernel)
theorem dX7_text_35 : decode cX7_text 35 = .ok (.invokevirtual 153, 3) := dk_182 (by decide +kernel)
theorem dX7_text_38 : decode cX7_text 38 = .ok (.istore_n 2, 1) := dk_61 (by decide +kernel)
theorem dX7_text_39 : decode cX7_text 39 = .ok (.aload_n 0, 1) := dk_42 (by decide +kernel)
theorem dX7_text_40 : decode cX7_text 40 = .ok (.getfield 12, 3) := dk_180 (by decide +kernel)
theorem dX7_text_43 : decode cX7_text 43 = .ok (.iconst 0, 1) := dk_3 (by decide +kernel)
theorem dX7_text_44 : decode cX7_text 44 = .ok (.putfield 147, 3) := dk_181 (by decide +kernel)
theorem dX7_text_47 : decode cX7_text 47 = .ok (.iload_n 2, 1) := dk_28 (by decide +kernel)
theorem dX7_text_48 : decode cX7_text 48 = .ok (.ifCond .lt 8, 3) := dk_155 (by decide +kernel)
theorem dX7_text_56 : decode cX7_text 56 = .ok (.aload_n 0, 1) := dk_42 (by decide +kernel)
theorem dX7_text_57 : decode cX7_text 57 = .ok (.getfield 12, 3) := dk_180 (by decide +kernel)
theorem dX7_text_60 : decode cX7_text 60 = .ok (.iload_n 1, 1) := dk_27 (by decide +kernel)
theorem dX7_text_61 : decode cX7_text 61 = .ok (.invokevirtual 157, 3) := dk_182 (by decide +kernel)
theorem dX7_text_64 : decode cX7_text 64 = .ok (.aload_n 0, 1) := dk_42 (by decide +kernel)
theorem dX7_text_65 : decode cX7_text 65 = .ok (.getfield 38, 3) := dk_180 (by decide +kernel)
theorem dX7_text_68 : decode cX7_text 68 = .ok (.getfield 161, 3) := dk_180 (by decide +kernel)
theorem dX7_text_71 : decode cX7_text 71 = .ok (.invokevirtual 164, 3) := dk_182 (by decide +kernel)
theorem dX7_text_74 : decode cX7_text 74 = .ok (.iconst 1, 1) := dk_4 (by decide +kernel)
theorem dX7_text_75 : decode cX7_text 75 = .ok (.ireturn, 1) := dk_172 (by decide +kernel)
theorem dX7_text_51 : decode cX7_text 51 = .ok (.bipush (-10), 2) := dk_16 (by decide +kernel)
theorem dX7_text_53 : decode cX7_text 53 = .ok (.iload_n 2, 1) := dk_28 (by decide +kernel)
theorem dX7_text_54 : decode cX7_text 54 = .ok (.isub, 1) := dk_100 (by decide +kernel)
theorem dX7_text_55 : decode cX7_text 55 = .ok (.ireturn, 1) := dk_172 (by decide +kernel)
theorem dX7_text_9 : decode cX7_text 9 = .ok (.aload_n 0, 1) := dk_42 (by decide +kernel)
theorem dX7_text_10 : decode cX7_text 10 = .ok (.ldc 68, 2) := dk_18 (by decide +kernel)
theorem dX7_text_12 : decode cX7_text 12 = .ok (.invokevirtual 69, 3) := dk_182 (by decide +kernel)
theorem dX7_text_15 : decode cX7_text 15 = .ok (.ireturn, 1) := dk_172 (by decide +kernel)
set_option maxRecDepth 100000 in
set_option maxHeartbeats 8000000 in
theorem x_X7_text (l : Launch) (D : va_G) (y : wY) (ad : Nat → Nat) (i1 : Int32) (M : Mem) (K : Int32 → Mem → Prop) (h : wp_X7_text i1 M K) : MI l D y ad yX7_text (Cond.code yX7_text cX7_text 3 (some .int)) 69 M [.ref (ad 0), .int i1] K := by
  refine MI_of (by decide) (Nat.le_of_ble_eq_true rfl) ?_
  intro p e s m args below meth c X hr hlocks
  delta wp_X7_text at h
  refine j_lv (lv1 := [(0, .ref (ad 0)), (1, .int i1)]) [0, 1] rfl ?_
  refine j_iload_n X 1 rfl rfl dX7_text_0 ?_
  refine j_iconst X (v := 0) (by decide) dX7_text_1 ?_
  refine j_iconst X (v := 1) (by decide) dX7_text_2 ?_
  refine j_callSI X (nn := 3) (As := [.int i1, .int 0, .int 1]) (st := []) aw_110 (x_X7_isWithin l D y ad i1 0 1 _ _ h) aw_109 aw_111 aw_2 (by decide +kernel) ⟨Nat.le_of_ble_eq_true rfl, Nat.le_of_ble_eq_true rfl⟩ rfl (Nat.le_of_ble_eq_true rfl) ⟨Nat.le_of_ble_eq_true rfl, Nat.le_of_ble_eq_true rfl⟩ dX7_text_3 ?_
  intro r1 M1 h
  refine j_if_ne X 16 (by decide) dX7_text_6 (fun q_2 => ?_) (fun q_2 => ?_)
  · replace h := h.1 q_2
    refine j_aload_n X 0 rfl rfl dX7_text_16 ?_
    refine j_get X cl_0.1 (wE_7 _ cl_0.2) rfl awF7 3 (by decide) aw_25 rfl (v := .ref (ad 60)) rfl dX7_text_17 ?_
    refine j_aload_n X 0 rfl rfl dX7_text_20 ?_
    refine j_get X cl_0.1 (wE_7 _ cl_0.2) rfl awF7 0 (by decide) aw_16 rfl (v := .ref (ad 1)) rfl dX7_text_21 ?_
    refine j_getN X cl_1.1 (wE_6 _ cl_1.2) rfl awF6 3 (by decide) (List.mem_of_getElem? (i := 24) rfl) rfl (v := .ref (ad 23)) rfl dX7_text_24 ?_
    refine j_aload_n X 0 rfl rfl dX7_text_27 ?_
    refine j_get X cl_0.1 (wE_7 _ cl_0.2) rfl awF7 0 (by decide) aw_16 rfl (v := .ref (ad 1)) rfl dX7_text_28 ?_
    refine j_getN X cl_1.1 (wE_6 _ cl_1.2) rfl awF6 5 (by decide) (List.mem_of_getElem? (i := 26) rfl) rfl (v := .int (M1 1 5)) rfl dX7_text_31 ?_
    refine j_iload_n X 1 rfl rfl dX7_text_34 ?_
    refine j_callVNI X (nn := 3) (As := [.ref (ad 23), .int (M1 1 5), .int i1]) (st := []) (ci := 2) cl_60.1 (wE_2 _ cl_60.2) rfl aw_314 aw_315 (x_X2_read l D y ad 23 (M1 1 5) i1 cl_23 _ _ h) (List.mem_of_getElem? (i := 20) rfl) aw_316 aw_24 (by decide +kernel) ⟨Nat.le_of_ble_eq_true rfl, Nat.le_of_ble_eq_true rfl⟩ rfl (Nat.le_of_ble_eq_true rfl) ⟨Nat.le_of_ble_eq_true rfl, Nat.le_of_ble_eq_true rfl⟩ dX7_text_35 ?_
    intro r3 M3 h
    refine j_istore_n X [(2, .int r3), (0, .ref (ad 0)), (1, .int i1)] rfl (by decide) rfl dX7_text_38 ?_
    refine j_aload_n X 1 rfl rfl dX7_text_39 ?_
    refine j_get X cl_0.1 (wE_7 _ cl_0.2) rfl awF7 0 (by decide) aw_16 rfl (v := .ref (ad 1)) rfl dX7_text_40 ?_
    refine j_iconst X (v := 0) (by decide) dX7_text_43 ?_
    refine j_putN X (up M3 1 5 0) up_o cl_1.1 (wE_6 _ cl_1.2) rfl awF6 5 (by decide) (wP_6_5 _ _ cl_1.2) tyX6 tyX6_ok nmX6 rfl (ty := .int) (by decide +kernel) rfl rfl (Nat.le_of_ble_eq_true rfl) (List.mem_of_getElem? (i := 26) rfl) rfl dX7_text_44 ?_
    refine j_iload_n X 0 rfl rfl dX7_text_47 ?_
    refine j_if_lt X 56 (by decide) dX7_text_48 (fun q_4 => ?_) (fun q_4 => ?_)
    · replace h := h.1 q_4
      refine j_aload_n X 1 rfl rfl dX7_text_56 ?_
      refine j_get X cl_0.1 (wE_7 _ cl_0.2) rfl awF7 0 (by decide) aw_16 rfl (v := .ref (ad 1)) rfl dX7_text_57 ?_
      refine j_iload_n X 2 rfl rfl dX7_text_60 ?_
      refine j_callVNR X (nn := 1) (As := [.int i1]) (st := []) (ci := 6) cl_1.1 (wE_6 _ cl_1.2) rfl aw_366 aw_367 (x_X6_textOf l D y ad 1 i1 cl_1 _ _ h) (List.mem_of_getElem? (i := 24) rfl) aw_368 aw_15 (by decide +kernel) ⟨Nat.le_of_ble_eq_true rfl, Nat.le_of_ble_eq_true rfl⟩ rfl (Nat.le_of_ble_eq_true rfl) ⟨Nat.le_of_ble_eq_true rfl, Nat.le_of_ble_eq_true rfl⟩ dX7_text_61 ?_
      intro r5 M5 h
      obtain ⟨hk_6, h⟩ := h
      refine j_aload_n X 1 rfl rfl dX7_text_64 ?_
      refine j_get X cl_0.1 (wE_7 _ cl_0.2) rfl awF7 3 (by decide) aw_25 rfl (v := .ref (ad 60)) rfl dX7_text_65 ?_
      refine j_getN X cl_60.1 (wE_2 _ cl_60.2) rfl awF2 0 (by decide) (List.mem_of_getElem? (i := 29) rfl) rfl (v := .ref (ad 61)) rfl dX7_text_68 ?_
      refine j_callVNV X (nn := 1) (As := [.ref (ad 61)]) (st := []) (ci := 4) hk_6.1 (wE_4 _ hk_6.2) rfl aw_369 aw_370 (x_X4_copyFrom l D y ad r5 61 hk_6 cl_61 _ _ h) (List.mem_of_getElem? (i := 25) rfl) aw_371 aw_41 (by decide +kernel) ⟨Nat.le_of_ble_eq_true rfl, Nat.le_of_ble_eq_true rfl⟩ rfl (Nat.le_of_ble_eq_true rfl) ⟨Nat.le_of_ble_eq_true rfl, Nat.le_of_ble_eq_true rfl⟩ dX7_text_71 ?_
      intro M7 h
      refine j_iconst X (v := 1) (by decide) dX7_text_74 ?_
      exact j_iret X hr hlocks dX7_text_75 h
    · replace h := h.2 q_4
      refine j_bipush X (v := (-10)) (by decide) dX7_text_51 ?_
      refine j_iload_n X 0 rfl rfl dX7_text_53 ?_
      refine j_isub X dX7_text_54 ?_
      exact j_iret X hr hlocks dX7_text_55 h
  · replace h := h.2 q_2
    refine j_aload_n X 0 rfl rfl dX7_text_9 ?_
    refine j_ldc X (v := (-1000000001)) aw_108 dX7_text_10 ?_
    refine j_callVI X (nn := 1) (As := [.int (-1000000001)]) (st := []) (ci := 7) cl_0.1 (wE_7 _ cl_0.2) rfl aw_117 aw_118 (x_X7_refuse l D y ad (-1000000001) _ _ h) aw_116 aw_119 aw_2 (by decide +kernel) ⟨Nat.le_of_ble_eq_true rfl, Nat.le_of_ble_eq_true rfl⟩ rfl (Nat.le_of_ble_eq_true rfl) ⟨Nat.le_of_ble_eq_true rfl, Nat.le_of_ble_eq_true rfl⟩ dX7_text_12 ?_
    intro r8 M8 h
    exact j_iret X hr hlocks dX7_text_15 h
theorem dX7_law_0 : decode cX7_law 0 = .ok (.iload_n 1, 1) := dk_27 (by decide +kernel)
theorem dX7_law_1 : decode cX7_law 1 = .ok (.iconst 0, 1) := dk_3 (by decide +kernel)
theorem dX7_law_2 : decode cX7_law 2 = .ok (.iconst 1, 1) := dk_4 (by decide +kernel)
theorem dX7_law_3 : decode cX7_law 3 = .ok (.invokestatic 60, 3) := dk_184 (by decide +kernel)
theorem dX7_law_6 : decode cX7_law 6 = .ok (.ifCond .ne 10, 3) := dk_154 (by decide +kernel)
theorem dX7_law_16 : decode cX7_law 16 = .ok (.aload_n 0, 1) := dk_42 (by decide +kernel)
theorem dX7_law_17 : decode cX7_law 17 = .ok (.getfield 12, 3) := dk_180 (by decide +kernel)
theorem dX7_law_20 : decode cX7_law 20 = .ok (.iload_n 1, 1) := dk_27 (by decide +kernel)
theorem dX7_law_21 : decode cX7_law 21 = .ok (.invokevirtual 157, 3) := dk_182 (by decide +kernel)
theorem dX7_law_24 : decode cX7_law 24 = .ok (.iload_n 2, 1) := dk_28 (by decide +kernel)
theorem dX7_law_25 : decode cX7_law 25 = .ok (.iload_n 3, 1) := dk_29 (by decide +kernel)
theorem dX7_law_26 : decode cX7_law 26 = .ok (.iload 4, 2) := dk_21 (by decide +kernel)
theorem dX7_law_28 : decode cX7_law 28 = .ok (.invokevirtual 170, 3) := dk_182 (by decide +kernel)
theorem dX7_law_31 : decode cX7_law 31 = .ok (.ireturn, 1) := dk_172 (by decide +kernel)
theorem dX7_law_9 : decode cX7_law 9 = .ok (.aload_n 0, 1) := dk_42 (by decide +kernel)
theorem dX7_law_10 : decode cX7_law 10 = .ok (.ldc 68, 2) := dk_18 (by decide +kernel)
theorem dX7_law_12 : decode cX7_law 12 = .ok (.invokevirtual 69, 3) := dk_182 (by decide +kernel)
theorem dX7_law_15 : decode cX7_law 15 = .ok (.ireturn, 1) := dk_172 (by decide +kernel)
set_option maxRecDepth 100000 in
set_option maxHeartbeats 8000000 in
theorem x_X7_law (l : Launch) (D : va_G) (y : wY) (ad : Nat → Nat) (i1 : Int32) (i2 : Int32) (i3 : Int32) (i4 : Int32) (M : Mem) (K : Int32 → Mem → Prop) (h : wp_X7_law i1 i2 i3 i4 M K) : MI l D y ad yX7_law (Cond.code yX7_law cX7_law 5 (some .int)) 3 M [.ref (ad 0), .int i1, .int i2, .int i3, .int i4] K := by
  refine MI_of (by decide) (Nat.le_of_ble_eq_true rfl) ?_
  intro p e s m args below meth c X hr hlocks
  delta wp_X7_law at h
  refine j_lv (lv1 := [(0, .ref (ad 0)), (1, .int i1), (2, .int i2), (3, .int i3), (4, .int i4)]) [0, 1, 2, 3, 4] rfl ?_
  refine j_iload_n X 1 rfl rfl dX7_law_0 ?_
  refine j_iconst X (v := 0) (by decide) dX7_law_1 ?_
  refine j_iconst X (v := 1) (by decide) dX7_law_2 ?_
  refine j_callSI X (nn := 3) (As := [.int i1, .int 0, .int 1]) (st := []) aw_110 (x_X7_isWithin l D y ad i1 0 1 _ _ h) aw_109 aw_111 aw_2 (by decide +kernel) ⟨Nat.le_of_ble_eq_true rfl, Nat.le_of_ble_eq_true rfl⟩ rfl (Nat.le_of_ble_eq_true rfl) ⟨Nat.le_of_ble_eq_true rfl, Nat.le_of_ble_eq_true rfl⟩ dX7_law_3 ?_
  intro r1 M1 h
  refine j_if_ne X 16 (by decide) dX7_law_6 (fun q_2 => ?_) (fun q_2 => ?_)
  · replace h := h.1 q_2
    refine j_aload_n X 0 rfl rfl dX7_law_16 ?_
    refine j_get X cl_0.1 (wE_7 _ cl_0.2) rfl awF7 0 (by decide) aw_16 rfl (v := .ref (ad 1)) rfl dX7_law_17 ?_
    refine j_iload_n X 1 rfl rfl dX7_law_20 ?_
    refine j_callVNR X (nn := 1) (As := [.int i1]) (st := []) (ci := 6) cl_1.1 (wE_6 _ cl_1.2) rfl aw_366 aw_367 (x_X6_textOf l D y ad 1 i1 cl_1 _ _ h) (List.mem_of_getElem? (i := 24) rfl) aw_368 aw_15 (by decide +kernel) ⟨Nat.le_of_ble_eq_true rfl, Nat.le_of_ble_eq_true rfl⟩ rfl (Nat.le_of_ble_eq_true rfl) ⟨Nat.le_of_ble_eq_true rfl, Nat.le_of_ble_eq_true rfl⟩ dX7_law_21 ?_
    intro r3 M3 h
    obtain ⟨hk_4, h⟩ := h
    refine j_iload_n X 2 rfl rfl dX7_law_24 ?_
    refine j_iload_n X 3 rfl rfl dX7_law_25 ?_
    refine j_iload X 4 rfl dX7_law_26 ?_
    refine j_callVNI X (nn := 3) (As := [.int i2, .int i3, .int i4]) (st := []) (ci := 4) hk_4.1 (wE_4 _ hk_4.2) rfl aw_198 aw_199 (x_X4_gives l D y ad r3 i2 i3 i4 hk_4 _ _ h) (List.mem_of_getElem? (i := 26) rfl) aw_200 aw_41 (by decide +kernel) ⟨Nat.le_of_ble_eq_true rfl, Nat.le_of_ble_eq_true rfl⟩ rfl (Nat.le_of_ble_eq_true rfl) ⟨Nat.le_of_ble_eq_true rfl, Nat.le_of_ble_eq_true rfl⟩ dX7_law_28 ?_
    intro r5 M5 h
    exact j_iret X hr hlocks dX7_law_31 h
  · replace h := h.2 q_2
    refine j_aload_n X 0 rfl rfl dX7_law_9 ?_
    refine j_ldc X (v := (-1000000001)) aw_108 dX7_law_10 ?_
    refine j_callVI X (nn := 1) (As := [.int (-1000000001)]) (st := []) (ci := 7) cl_0.1 (wE_7 _ cl_0.2) rfl aw_117 aw_118 (x_X7_refuse l D y ad (-1000000001) _ _ h) aw_116 aw_119 aw_2 (by decide +kernel) ⟨Nat.le_of_ble_eq_true rfl, Nat.le_of_ble_eq_true rfl⟩ rfl (Nat.le_of_ble_eq_true rfl) ⟨Nat.le_of_ble_eq_true rfl, Nat.le_of_ble_eq_true rfl⟩ dX7_law_12 ?_
    intro r6 M6 h
    exact j_iret X hr hlocks dX7_law_15 h
theorem dX7_days_44 : decode cX7_days 44 = .ok (.iload_n 2, 1) := dk_28 (by decide +kernel)
theorem dX7_days_45 : decode cX7_days 45 = .ok (.iload_n 1, 1) := dk_27 (by decide +kernel)
theorem dX7_days_46 : decode cX7_days 46 = .ok (.if_icmp .ge 20, 3) := dk_162 (by decide +kernel)
theorem dX7_days_66 : decode cX7_days 66 = .ok (.aload_n 0, 1) := dk_42 (by decide +kernel)
theorem dX7_days_67 : decode cX7_days 67 = .ok (.getfield 12, 3) := dk_180 (by decide +kernel)
theorem dX7_days_70 : decode cX7_days 70 = .ok (.getfield 72, 3) := dk_180 (by decide +kernel)
theorem dX7_days_73 : decode cX7_days 73 = .ok (.invokevirtual 182, 3) := dk_182 (by decide +kernel)
theorem dX7_days_76 : decode cX7_days 76 = .ok (.ireturn, 1) := dk_172 (by decide +kernel)
theorem dX7_days_49 : decode cX7_days 49 = .ok (.aload_n 0, 1) := dk_42 (by decide +kernel)
theorem dX7_days_50 : decode cX7_days 50 = .ok (.getfield 12, 3) := dk_180 (by decide +kernel)
theorem dX7_days_53 : decode cX7_days 53 = .ok (.getfield 72, 3) := dk_180 (by decide +kernel)
theorem dX7_days_56 : decode cX7_days 56 = .ok (.iconst 1, 1) := dk_4 (by decide +kernel)
theorem dX7_days_57 : decode cX7_days 57 = .ok (.invokevirtual 178, 3) := dk_182 (by decide +kernel)
theorem dX7_days_60 : decode cX7_days 60 = .ok (.iinc 2 1, 3) := dk_132 (by decide +kernel)
theorem dX7_days_63 : decode cX7_days 63 = .ok (.goto (-19), 3) := dk_167 (by decide +kernel)
theorem dX7_days_0 : decode cX7_days 0 = .ok (.iload_n 1, 1) := dk_27 (by decide +kernel)
theorem dX7_days_1 : decode cX7_days 1 = .ok (.iconst 1, 1) := dk_4 (by decide +kernel)
theorem dX7_days_2 : decode cX7_days 2 = .ok (.bipush 60, 2) := dk_16 (by decide +kernel)
theorem dX7_days_4 : decode cX7_days 4 = .ok (.invokestatic 60, 3) := dk_184 (by decide +kernel)
theorem dX7_days_7 : decode cX7_days 7 = .ok (.ifCond .ne 10, 3) := dk_154 (by decide +kernel)
theorem dX7_days_17 : decode cX7_days 17 = .ok (.aload_n 0, 1) := dk_42 (by decide +kernel)
theorem dX7_days_18 : decode cX7_days 18 = .ok (.getfield 12, 3) := dk_180 (by decide +kernel)
theorem dX7_days_21 : decode cX7_days 21 = .ok (.getfield 72, 3) := dk_180 (by decide +kernel)
theorem dX7_days_24 : decode cX7_days 24 = .ok (.getfield 174, 3) := dk_180 (by decide +kernel)
theorem dX7_days_27 : decode cX7_days 27 = .ok (.iload_n 1, 1) := dk_27 (by decide +kernel)
theorem dX7_days_28 : decode cX7_days 28 = .ok (.iadd, 1) := dk_96 (by decide +kernel)
theorem dX7_days_29 : decode cX7_days 29 = .ok (.sipush 9999, 3) := dk_17 (by decide +kernel)
theorem dX7_days_32 : decode cX7_days 32 = .ok (.if_icmp .le 10, 3) := dk_164 (by decide +kernel)
theorem dX7_days_42 : decode cX7_days 42 = .ok (.iconst 0, 1) := dk_3 (by decide +kernel)
theorem dX7_days_43 : decode cX7_days 43 = .ok (.istore_n 2, 1) := dk_61 (by decide +kernel)
theorem dX7_days_35 : decode cX7_days 35 = .ok (.aload_n 0, 1) := dk_42 (by decide +kernel)
theorem dX7_days_36 : decode cX7_days 36 = .ok (.ldc 177, 2) := dk_18 (by decide +kernel)
theorem dX7_days_38 : decode cX7_days 38 = .ok (.invokevirtual 69, 3) := dk_182 (by decide +kernel)
theorem dX7_days_41 : decode cX7_days 41 = .ok (.ireturn, 1) := dk_172 (by decide +kernel)
theorem dX7_days_10 : decode cX7_days 10 = .ok (.aload_n 0, 1) := dk_42 (by decide +kernel)
theorem dX7_days_11 : decode cX7_days 11 = .ok (.ldc 68, 2) := dk_18 (by decide +kernel)
theorem dX7_days_13 : decode cX7_days 13 = .ok (.invokevirtual 69, 3) := dk_182 (by decide +kernel)
theorem dX7_days_16 : decode cX7_days 16 = .ok (.ireturn, 1) := dk_172 (by decide +kernel)
set_option maxRecDepth 100000 in
set_option maxHeartbeats 8000000 in
theorem x_X7_days (l : Launch) (D : va_G) (y : wY) (ad : Nat → Nat) (i1 : Int32) (M : Mem) (K : Int32 → Mem → Prop) (h : wp_X7_days i1 M K) : MI l D y ad yX7_days (Cond.code yX7_days cX7_days 3 (some .int)) 6 M [.ref (ad 0), .int i1] K := by
  refine MI_of (by decide) (Nat.le_of_ble_eq_true rfl) ?_
  intro p e s m args below meth c X hr hlocks
  have hL44 : ∀ (i1 : Int32) (n : Nat) (i2 : Int32) (Mb : Mem), wp_X7_days_L44 K i1 n i2 Mb → J p l e (rmN 6) s m args below meth c 0 0 (QI K D y ad M s args below) D y ad (va_A (PL y ad M) s.heap.size) 3 Mb 44 [(0, .ref (ad 0)), (1, .int i1), (2, .int i2)] [] := by
    intro i1 n
    induction n with
    | zero => intro i2 Mb h; exact False.elim h
    | succ n hB44 =>
      intro i2 Mb h
      replace h : wp_X7_days_l44 K i1 (wp_X7_days_L44 K i1 n) i2 Mb := h
      delta wp_X7_days_l44 at h
      refine j_iload_n X 2 rfl rfl dX7_days_44 ?_
      refine j_iload_n X 1 rfl rfl dX7_days_45 ?_
      refine j_icmp_ge X 66 (by decide) dX7_days_46 (fun q_4401 => ?_) (fun q_4401 => ?_)
      · replace h := h.1 q_4401
        refine j_aload_n X 0 rfl rfl dX7_days_66 ?_
        refine j_get X cl_0.1 (wE_7 _ cl_0.2) rfl awF7 0 (by decide) aw_16 rfl (v := .ref (ad 1)) rfl dX7_days_67 ?_
        refine j_getN X cl_1.1 (wE_6 _ cl_1.2) rfl awF6 2 (by decide) (List.mem_of_getElem? (i := 23) rfl) rfl (v := .ref (ad 12)) rfl dX7_days_70 ?_
        refine j_callVNI X (nn := 0) (As := []) (st := []) (ci := 0) cl_12.1 (wE_0 _ cl_12.2) rfl aw_462 aw_463 (x_X0_endedMany l D y ad 12 cl_12 _ _ h) (List.mem_of_getElem? (i := 31) rfl) aw_464 aw_20 (by decide +kernel) ⟨Nat.le_of_ble_eq_true rfl, Nat.le_of_ble_eq_true rfl⟩ rfl (Nat.le_of_ble_eq_true rfl) ⟨Nat.le_of_ble_eq_true rfl, Nat.le_of_ble_eq_true rfl⟩ dX7_days_73 ?_
        intro r4402 M4402 h
        exact j_iret X hr hlocks dX7_days_76 h
      · replace h := h.2 q_4401
        refine j_aload_n X 0 rfl rfl dX7_days_49 ?_
        refine j_get X cl_0.1 (wE_7 _ cl_0.2) rfl awF7 0 (by decide) aw_16 rfl (v := .ref (ad 1)) rfl dX7_days_50 ?_
        refine j_getN X cl_1.1 (wE_6 _ cl_1.2) rfl awF6 2 (by decide) (List.mem_of_getElem? (i := 23) rfl) rfl (v := .ref (ad 12)) rfl dX7_days_53 ?_
        refine j_iconst X (v := 1) (by decide) dX7_days_56 ?_
        refine j_callVNV X (nn := 1) (As := [.int 1]) (st := []) (ci := 0) cl_12.1 (wE_0 _ cl_12.2) rfl aw_439 aw_440 (x_X0_passDay l D y ad 12 1 cl_12 _ _ h) (List.mem_of_getElem? (i := 27) rfl) aw_441 aw_20 (by decide +kernel) ⟨Nat.le_of_ble_eq_true rfl, Nat.le_of_ble_eq_true rfl⟩ rfl (Nat.le_of_ble_eq_true rfl) ⟨Nat.le_of_ble_eq_true rfl, Nat.le_of_ble_eq_true rfl⟩ dX7_days_57 ?_
        intro M4403 h
        refine j_iinc X (v := (i2 + 1)) 2 [(2, .int (i2 + 1)), (0, .ref (ad 0)), (1, .int i1)] rfl rfl (by decide) rfl dX7_days_60 ?_
        refine j_goto X 44 (by decide) dX7_days_63 ?_
        refine j_lv (lv1 := [(0, .ref (ad 0)), (1, .int i1), (2, .int (i2 + 1))]) [1, 2, 0] rfl ?_
        exact hB44 _ _ h
  delta wp_X7_days at h
  refine j_lv (lv1 := [(0, .ref (ad 0)), (1, .int i1)]) [0, 1] rfl ?_
  refine j_iload_n X 1 rfl rfl dX7_days_0 ?_
  refine j_iconst X (v := 1) (by decide) dX7_days_1 ?_
  refine j_bipush X (v := 60) (by decide) dX7_days_2 ?_
  refine j_callSI X (nn := 3) (As := [.int i1, .int 1, .int 60]) (st := []) aw_110 (x_X7_isWithin l D y ad i1 1 60 _ _ h) aw_109 aw_111 aw_2 (by decide +kernel) ⟨Nat.le_of_ble_eq_true rfl, Nat.le_of_ble_eq_true rfl⟩ rfl (Nat.le_of_ble_eq_true rfl) ⟨Nat.le_of_ble_eq_true rfl, Nat.le_of_ble_eq_true rfl⟩ dX7_days_4 ?_
  intro r1 M1 h
  refine j_if_ne X 17 (by decide) dX7_days_7 (fun q_2 => ?_) (fun q_2 => ?_)
  · replace h := h.1 q_2
    refine j_aload_n X 0 rfl rfl dX7_days_17 ?_
    refine j_get X cl_0.1 (wE_7 _ cl_0.2) rfl awF7 0 (by decide) aw_16 rfl (v := .ref (ad 1)) rfl dX7_days_18 ?_
    refine j_getN X cl_1.1 (wE_6 _ cl_1.2) rfl awF6 2 (by decide) (List.mem_of_getElem? (i := 23) rfl) rfl (v := .ref (ad 12)) rfl dX7_days_21 ?_
    refine j_getN X cl_12.1 (wE_0 _ cl_12.2) rfl awF0 6 (by decide) (List.mem_of_getElem? (i := 18) rfl) rfl (v := .int (M1 12 6)) rfl dX7_days_24 ?_
    refine j_iload_n X 1 rfl rfl dX7_days_27 ?_
    refine j_iadd X dX7_days_28 ?_
    refine j_sipush X (v := 9999) (by decide) dX7_days_29 ?_
    refine j_icmp_le X 42 (by decide) dX7_days_32 (fun q_3 => ?_) (fun q_3 => ?_)
    · replace h := h.1 q_3
      refine j_iconst X (v := 0) (by decide) dX7_days_42 ?_
      refine j_istore_n X [(2, .int 0), (0, .ref (ad 0)), (1, .int i1)] rfl (by decide) rfl dX7_days_43 ?_
      refine j_lv (lv1 := [(0, .ref (ad 0)), (1, .int i1), (2, .int 0)]) [1, 2, 0] rfl ?_
      obtain ⟨n44, h⟩ := h
      exact hL44 _   n44 _ _ h
    · replace h := h.2 q_3
      refine j_aload_n X 0 rfl rfl dX7_days_35 ?_
      refine j_ldc X (v := (-1000000003)) aw_438 dX7_days_36 ?_
      refine j_callVI X (nn := 1) (As := [.int (-1000000003)]) (st := []) (ci := 7) cl_0.1 (wE_7 _ cl_0.2) rfl aw_117 aw_118 (x_X7_refuse l D y ad (-1000000003) _ _ h) aw_116 aw_119 aw_2 (by decide +kernel) ⟨Nat.le_of_ble_eq_true rfl, Nat.le_of_ble_eq_true rfl⟩ rfl (Nat.le_of_ble_eq_true rfl) ⟨Nat.le_of_ble_eq_true rfl, Nat.le_of_ble_eq_true rfl⟩ dX7_days_38 ?_
      intro r4 M4 h
      exact j_iret X hr hlocks dX7_days_41 h
  · replace h := h.2 q_2
    refine j_aload_n X 0 rfl rfl dX7_days_10 ?_
    refine j_ldc X (v := (-1000000001)) aw_108 dX7_days_11 ?_
    refine j_callVI X (nn := 1) (As := [.int (-1000000001)]) (st := []) (ci := 7) cl_0.1 (wE_7 _ cl_0.2) rfl aw_117 aw_118 (x_X7_refuse l D y ad (-1000000001) _ _ h) aw_116 aw_119 aw_2 (by decide +kernel) ⟨Nat.le_of_ble_eq_true rfl, Nat.le_of_ble_eq_true rfl⟩ rfl (Nat.le_of_ble_eq_true rfl) ⟨Nat.le_of_ble_eq_true rfl, Nat.le_of_ble_eq_true rfl⟩ dX7_days_13 ?_
    intro r5 M5 h
    exact j_iret X hr hlocks dX7_days_16 h
theorem dX7_loose_44 : decode cX7_loose 44 = .ok (.iload_n 2, 1) := dk_28 (by decide +kernel)
theorem dX7_loose_45 : decode cX7_loose 45 = .ok (.iload_n 1, 1) := dk_27 (by decide +kernel)
theorem dX7_loose_46 : decode cX7_loose 46 = .ok (.if_icmp .ge 40, 3) := dk_162 (by decide +kernel)
theorem dX7_loose_86 : decode cX7_loose 86 = .ok (.aload_n 0, 1) := dk_42 (by decide +kernel)
theorem dX7_loose_87 : decode cX7_loose 87 = .ok (.getfield 12, 3) := dk_180 (by decide +kernel)
theorem dX7_loose_90 : decode cX7_loose 90 = .ok (.getfield 72, 3) := dk_180 (by decide +kernel)
theorem dX7_loose_93 : decode cX7_loose 93 = .ok (.invokevirtual 182, 3) := dk_182 (by decide +kernel)
theorem dX7_loose_96 : decode cX7_loose 96 = .ok (.ireturn, 1) := dk_172 (by decide +kernel)
theorem dX7_loose_49 : decode cX7_loose 49 = .ok (.aload_n 0, 1) := dk_42 (by decide +kernel)
theorem dX7_loose_50 : decode cX7_loose 50 = .ok (.getfield 12, 3) := dk_180 (by decide +kernel)
theorem dX7_loose_53 : decode cX7_loose 53 = .ok (.getfield 72, 3) := dk_180 (by decide +kernel)
theorem dX7_loose_56 : decode cX7_loose 56 = .ok (.aload_n 0, 1) := dk_42 (by decide +kernel)
theorem dX7_loose_57 : decode cX7_loose 57 = .ok (.getfield 12, 3) := dk_180 (by decide +kernel)
theorem dX7_loose_60 : decode cX7_loose 60 = .ok (.invokevirtual 185, 3) := dk_182 (by decide +kernel)
theorem dX7_loose_63 : decode cX7_loose 63 = .ok (.bipush 10, 2) := dk_16 (by decide +kernel)
theorem dX7_loose_65 : decode cX7_loose 65 = .ok (.irem, 1) := dk_112 (by decide +kernel)
theorem dX7_loose_66 : decode cX7_loose 66 = .ok (.putfield 188, 3) := dk_181 (by decide +kernel)
theorem dX7_loose_69 : decode cX7_loose 69 = .ok (.aload_n 0, 1) := dk_42 (by decide +kernel)
theorem dX7_loose_70 : decode cX7_loose 70 = .ok (.getfield 12, 3) := dk_180 (by decide +kernel)
theorem dX7_loose_73 : decode cX7_loose 73 = .ok (.getfield 72, 3) := dk_180 (by decide +kernel)
theorem dX7_loose_76 : decode cX7_loose 76 = .ok (.iconst 1, 1) := dk_4 (by decide +kernel)
theorem dX7_loose_77 : decode cX7_loose 77 = .ok (.invokevirtual 178, 3) := dk_182 (by decide +kernel)
theorem dX7_loose_80 : decode cX7_loose 80 = .ok (.iinc 2 1, 3) := dk_132 (by decide +kernel)
theorem dX7_loose_83 : decode cX7_loose 83 = .ok (.goto (-39), 3) := dk_167 (by decide +kernel)
theorem dX7_loose_0 : decode cX7_loose 0 = .ok (.iload_n 1, 1) := dk_27 (by decide +kernel)
theorem dX7_loose_1 : decode cX7_loose 1 = .ok (.iconst 1, 1) := dk_4 (by decide +kernel)
theorem dX7_loose_2 : decode cX7_loose 2 = .ok (.bipush 40, 2) := dk_16 (by decide +kernel)
theorem dX7_loose_4 : decode cX7_loose 4 = .ok (.invokestatic 60, 3) := dk_184 (by decide +kernel)
theorem dX7_loose_7 : decode cX7_loose 7 = .ok (.ifCond .ne 10, 3) := dk_154 (by decide +kernel)
theorem dX7_loose_17 : decode cX7_loose 17 = .ok (.aload_n 0, 1) := dk_42 (by decide +kernel)
theorem dX7_loose_18 : decode cX7_loose 18 = .ok (.getfield 12, 3) := dk_180 (by decide +kernel)
theorem dX7_loose_21 : decode cX7_loose 21 = .ok (.getfield 72, 3) := dk_180 (by decide +kernel)
theorem dX7_loose_24 : decode cX7_loose 24 = .ok (.getfield 174, 3) := dk_180 (by decide +kernel)
theorem dX7_loose_27 : decode cX7_loose 27 = .ok (.iload_n 1, 1) := dk_27 (by decide +kernel)
theorem dX7_loose_28 : decode cX7_loose 28 = .ok (.iadd, 1) := dk_96 (by decide +kernel)
theorem dX7_loose_29 : decode cX7_loose 29 = .ok (.sipush 9999, 3) := dk_17 (by decide +kernel)
theorem dX7_loose_32 : decode cX7_loose 32 = .ok (.if_icmp .le 10, 3) := dk_164 (by decide +kernel)
theorem dX7_loose_42 : decode cX7_loose 42 = .ok (.iconst 0, 1) := dk_3 (by decide +kernel)
theorem dX7_loose_43 : decode cX7_loose 43 = .ok (.istore_n 2, 1) := dk_61 (by decide +kernel)
theorem dX7_loose_35 : decode cX7_loose 35 = .ok (.aload_n 0, 1) := dk_42 (by decide +kernel)
theorem dX7_loose_36 : decode cX7_loose 36 = .ok (.ldc 177, 2) := dk_18 (by decide +kernel)
theorem dX7_loose_38 : decode cX7_loose 38 = .ok (.invokevirtual 69, 3) := dk_182 (by decide +kernel)
theorem dX7_loose_41 : decode cX7_loose 41 = .ok (.ireturn, 1) := dk_172 (by decide +kernel)
theorem dX7_loose_10 : decode cX7_loose 10 = .ok (.aload_n 0, 1) := dk_42 (by decide +kernel)
theorem dX7_loose_11 : decode cX7_loose 11 = .ok (.ldc 68, 2) := dk_18 (by decide +kernel)
theorem dX7_loose_13 : decode cX7_loose 13 = .ok (.invokevirtual 69, 3) := dk_182 (by decide +kernel)
theorem dX7_loose_16 : decode cX7_loose 16 = .ok (.ireturn, 1) := dk_172 (by decide +kernel)
set_option maxRecDepth 100000 in
set_option maxHeartbeats 8000000 in
theorem x_X7_loose (l : Launch) (D : va_G) (y : wY) (ad : Nat → Nat) (i1 : Int32) (M : Mem) (K : Int32 → Mem → Prop) (h : wp_X7_loose i1 M K) : MI l D y ad yX7_loose (Cond.code yX7_loose cX7_loose 3 (some .int)) 6 M [.ref (ad 0), .int i1] K := by
  refine MI_of (by decide) (Nat.le_of_ble_eq_true rfl) ?_
  intro p e s m args below meth c X hr hlocks
  have hL44 : ∀ (i1 : Int32) (n : Nat) (i2 : Int32) (Mb : Mem), wp_X7_loose_L44 K i1 n i2 Mb → J p l e (rmN 6) s m args below meth c 0 0 (QI K D y ad M s args below) D y ad (va_A (PL y ad M) s.heap.size) 3 Mb 44 [(0, .ref (ad 0)), (1, .int i1), (2, .int i2)] [] := by
    intro i1 n
    induction n with
    | zero => intro i2 Mb h; exact False.elim h
    | succ n hB44 =>
      intro i2 Mb h
      replace h : wp_X7_loose_l44 K i1 (wp_X7_loose_L44 K i1 n) i2 Mb := h
      delta wp_X7_loose_l44 at h
      refine j_iload_n X 2 rfl rfl dX7_loose_44 ?_
      refine j_iload_n X 1 rfl rfl dX7_loose_45 ?_
      refine j_icmp_ge X 86 (by decide) dX7_loose_46 (fun q_4401 => ?_) (fun q_4401 => ?_)
      · replace h := h.1 q_4401
        refine j_aload_n X 0 rfl rfl dX7_loose_86 ?_
        refine j_get X cl_0.1 (wE_7 _ cl_0.2) rfl awF7 0 (by decide) aw_16 rfl (v := .ref (ad 1)) rfl dX7_loose_87 ?_
        refine j_getN X cl_1.1 (wE_6 _ cl_1.2) rfl awF6 2 (by decide) (List.mem_of_getElem? (i := 23) rfl) rfl (v := .ref (ad 12)) rfl dX7_loose_90 ?_
        refine j_callVNI X (nn := 0) (As := []) (st := []) (ci := 0) cl_12.1 (wE_0 _ cl_12.2) rfl aw_462 aw_463 (x_X0_endedMany l D y ad 12 cl_12 _ _ h) (List.mem_of_getElem? (i := 31) rfl) aw_464 aw_20 (by decide +kernel) ⟨Nat.le_of_ble_eq_true rfl, Nat.le_of_ble_eq_true rfl⟩ rfl (Nat.le_of_ble_eq_true rfl) ⟨Nat.le_of_ble_eq_true rfl, Nat.le_of_ble_eq_true rfl⟩ dX7_loose_93 ?_
        intro r4402 M4402 h
        exact j_iret X hr hlocks dX7_loose_96 h
      · replace h := h.2 q_4401
        refine j_aload_n X 0 rfl rfl dX7_loose_49 ?_
        refine j_get X cl_0.1 (wE_7 _ cl_0.2) rfl awF7 0 (by decide) aw_16 rfl (v := .ref (ad 1)) rfl dX7_loose_50 ?_
        refine j_getN X cl_1.1 (wE_6 _ cl_1.2) rfl awF6 2 (by decide) (List.mem_of_getElem? (i := 23) rfl) rfl (v := .ref (ad 12)) rfl dX7_loose_53 ?_
        refine j_aload_n X 0 rfl rfl dX7_loose_56 ?_
        refine j_get X cl_0.1 (wE_7 _ cl_0.2) rfl awF7 0 (by decide) aw_16 rfl (v := .ref (ad 1)) rfl dX7_loose_57 ?_
        refine j_callVNI X (nn := 0) (As := []) (st := [.ref (ad 12)]) (ci := 6) cl_1.1 (wE_6 _ cl_1.2) rfl aw_516 aw_517 (x_X6_draw l D y ad 1 cl_1 _ _ h) (List.mem_of_getElem? (i := 32) rfl) aw_518 aw_15 (by decide +kernel) ⟨Nat.le_of_ble_eq_true rfl, Nat.le_of_ble_eq_true rfl⟩ rfl (Nat.le_of_ble_eq_true rfl) ⟨Nat.le_of_ble_eq_true rfl, Nat.le_of_ble_eq_true rfl⟩ dX7_loose_60 ?_
        intro r4403 M4403 h
        refine j_bipush X (v := 10) (by decide) dX7_loose_63 ?_
        refine j_irem X (by decide) dX7_loose_65 ?_
        refine j_putN X (up M4403 12 5 (r4403 - r4403 / 10 * 10)) up_o cl_12.1 (wE_0 _ cl_12.2) rfl awF0 5 (by decide) (wP_0_5 _ _ cl_12.2) tyX0 tyX0_ok nmX0 rfl (ty := .int) (by decide +kernel) rfl rfl (Nat.le_of_ble_eq_true rfl) (List.mem_of_getElem? (i := 17) rfl) rfl dX7_loose_66 ?_
        refine j_aload_n X 0 rfl rfl dX7_loose_69 ?_
        refine j_get X cl_0.1 (wE_7 _ cl_0.2) rfl awF7 0 (by decide) aw_16 rfl (v := .ref (ad 1)) rfl dX7_loose_70 ?_
        refine j_getN X cl_1.1 (wE_6 _ cl_1.2) rfl awF6 2 (by decide) (List.mem_of_getElem? (i := 23) rfl) rfl (v := .ref (ad 12)) rfl dX7_loose_73 ?_
        refine j_iconst X (v := 1) (by decide) dX7_loose_76 ?_
        refine j_callVNV X (nn := 1) (As := [.int 1]) (st := []) (ci := 0) cl_12.1 (wE_0 _ cl_12.2) rfl aw_439 aw_440 (x_X0_passDay l D y ad 12 1 cl_12 _ _ h) (List.mem_of_getElem? (i := 27) rfl) aw_441 aw_20 (by decide +kernel) ⟨Nat.le_of_ble_eq_true rfl, Nat.le_of_ble_eq_true rfl⟩ rfl (Nat.le_of_ble_eq_true rfl) ⟨Nat.le_of_ble_eq_true rfl, Nat.le_of_ble_eq_true rfl⟩ dX7_loose_77 ?_
        intro M4404 h
        refine j_iinc X (v := (i2 + 1)) 2 [(2, .int (i2 + 1)), (0, .ref (ad 0)), (1, .int i1)] rfl rfl (by decide) rfl dX7_loose_80 ?_
        refine j_goto X 44 (by decide) dX7_loose_83 ?_
        refine j_lv (lv1 := [(0, .ref (ad 0)), (1, .int i1), (2, .int (i2 + 1))]) [1, 2, 0] rfl ?_
        exact hB44 _ _ h
  delta wp_X7_loose at h
  refine j_lv (lv1 := [(0, .ref (ad 0)), (1, .int i1)]) [0, 1] rfl ?_
  refine j_iload_n X 1 rfl rfl dX7_loose_0 ?_
  refine j_iconst X (v := 1) (by decide) dX7_loose_1 ?_
  refine j_bipush X (v := 40) (by decide) dX7_loose_2 ?_
  refine j_callSI X (nn := 3) (As := [.int i1, .int 1, .int 40]) (st := []) aw_110 (x_X7_isWithin l D y ad i1 1 40 _ _ h) aw_109 aw_111 aw_2 (by decide +kernel) ⟨Nat.le_of_ble_eq_true rfl, Nat.le_of_ble_eq_true rfl⟩ rfl (Nat.le_of_ble_eq_true rfl) ⟨Nat.le_of_ble_eq_true rfl, Nat.le_of_ble_eq_true rfl⟩ dX7_loose_4 ?_
  intro r1 M1 h
  refine j_if_ne X 17 (by decide) dX7_loose_7 (fun q_2 => ?_) (fun q_2 => ?_)
  · replace h := h.1 q_2
    refine j_aload_n X 0 rfl rfl dX7_loose_17 ?_
    refine j_get X cl_0.1 (wE_7 _ cl_0.2) rfl awF7 0 (by decide) aw_16 rfl (v := .ref (ad 1)) rfl dX7_loose_18 ?_
    refine j_getN X cl_1.1 (wE_6 _ cl_1.2) rfl awF6 2 (by decide) (List.mem_of_getElem? (i := 23) rfl) rfl (v := .ref (ad 12)) rfl dX7_loose_21 ?_
    refine j_getN X cl_12.1 (wE_0 _ cl_12.2) rfl awF0 6 (by decide) (List.mem_of_getElem? (i := 18) rfl) rfl (v := .int (M1 12 6)) rfl dX7_loose_24 ?_
    refine j_iload_n X 1 rfl rfl dX7_loose_27 ?_
    refine j_iadd X dX7_loose_28 ?_
    refine j_sipush X (v := 9999) (by decide) dX7_loose_29 ?_
    refine j_icmp_le X 42 (by decide) dX7_loose_32 (fun q_3 => ?_) (fun q_3 => ?_)
    · replace h := h.1 q_3
      refine j_iconst X (v := 0) (by decide) dX7_loose_42 ?_
      refine j_istore_n X [(2, .int 0), (0, .ref (ad 0)), (1, .int i1)] rfl (by decide) rfl dX7_loose_43 ?_
      refine j_lv (lv1 := [(0, .ref (ad 0)), (1, .int i1), (2, .int 0)]) [1, 2, 0] rfl ?_
      obtain ⟨n44, h⟩ := h
      exact hL44 _   n44 _ _ h
    · replace h := h.2 q_3
      refine j_aload_n X 0 rfl rfl dX7_loose_35 ?_
      refine j_ldc X (v := (-1000000003)) aw_438 dX7_loose_36 ?_
      refine j_callVI X (nn := 1) (As := [.int (-1000000003)]) (st := []) (ci := 7) cl_0.1 (wE_7 _ cl_0.2) rfl aw_117 aw_118 (x_X7_refuse l D y ad (-1000000003) _ _ h) aw_116 aw_119 aw_2 (by decide +kernel) ⟨Nat.le_of_ble_eq_true rfl, Nat.le_of_ble_eq_true rfl⟩ rfl (Nat.le_of_ble_eq_true rfl) ⟨Nat.le_of_ble_eq_true rfl, Nat.le_of_ble_eq_true rfl⟩ dX7_loose_38 ?_
      intro r4 M4 h
      exact j_iret X hr hlocks dX7_loose_41 h
  · replace h := h.2 q_2
    refine j_aload_n X 0 rfl rfl dX7_loose_10 ?_
    refine j_ldc X (v := (-1000000001)) aw_108 dX7_loose_11 ?_
    refine j_callVI X (nn := 1) (As := [.int (-1000000001)]) (st := []) (ci := 7) cl_0.1 (wE_7 _ cl_0.2) rfl aw_117 aw_118 (x_X7_refuse l D y ad (-1000000001) _ _ h) aw_116 aw_119 aw_2 (by decide +kernel) ⟨Nat.le_of_ble_eq_true rfl, Nat.le_of_ble_eq_true rfl⟩ rfl (Nat.le_of_ble_eq_true rfl) ⟨Nat.le_of_ble_eq_true rfl, Nat.le_of_ble_eq_true rfl⟩ dX7_loose_13 ?_
    intro r5 M5 h
    exact j_iret X hr hlocks dX7_loose_16 h
theorem dX7_thinkDays_2 : decode cX7_thinkDays 2 = .ok (.iload_n 2, 1) := dk_28 (by decide +kernel)
theorem dX7_thinkDays_3 : decode cX7_thinkDays 3 = .ok (.iload_n 1, 1) := dk_27 (by decide +kernel)
theorem dX7_thinkDays_4 : decode cX7_thinkDays 4 = .ok (.if_icmp .ge 17, 3) := dk_162 (by decide +kernel)
theorem dX7_thinkDays_21 : decode cX7_thinkDays 21 = .ok (.return_, 1) := dk_177 (by decide +kernel)
theorem dX7_thinkDays_7 : decode cX7_thinkDays 7 = .ok (.aload_n 0, 1) := dk_42 (by decide +kernel)
theorem dX7_thinkDays_8 : decode cX7_thinkDays 8 = .ok (.getfield 31, 3) := dk_180 (by decide +kernel)
theorem dX7_thinkDays_11 : decode cX7_thinkDays 11 = .ok (.iconst 0, 1) := dk_3 (by decide +kernel)
theorem dX7_thinkDays_12 : decode cX7_thinkDays 12 = .ok (.invokevirtual 178, 3) := dk_182 (by decide +kernel)
theorem dX7_thinkDays_15 : decode cX7_thinkDays 15 = .ok (.iinc 2 1, 3) := dk_132 (by decide +kernel)
theorem dX7_thinkDays_18 : decode cX7_thinkDays 18 = .ok (.goto (-16), 3) := dk_167 (by decide +kernel)
theorem dX7_thinkDays_0 : decode cX7_thinkDays 0 = .ok (.iconst 0, 1) := dk_3 (by decide +kernel)
theorem dX7_thinkDays_1 : decode cX7_thinkDays 1 = .ok (.istore_n 2, 1) := dk_61 (by decide +kernel)
set_option maxRecDepth 100000 in
set_option maxHeartbeats 8000000 in
theorem x_X7_thinkDays (l : Launch) (D : va_G) (y : wY) (ad : Nat → Nat) (i1 : Int32) (M : Mem) (K : Mem → Prop) (h : wp_X7_thinkDays i1 M K) : MV l D y ad yX7_thinkDays (Cond.code yX7_thinkDays cX7_thinkDays 3 none) 6 M [.ref (ad 0), .int i1] K := by
  refine MV_of (by decide) (Nat.le_of_ble_eq_true rfl) ?_
  intro p e s m args below meth c X hr hlocks
  have hL2 : ∀ (i1 : Int32) (n : Nat) (i2 : Int32) (Mb : Mem), wp_X7_thinkDays_L2 K i1 n i2 Mb → J p l e (rmN 6) s m args below meth c 0 0 (QV K D y ad M s args below) D y ad (va_A (PL y ad M) s.heap.size) 3 Mb 2 [(0, .ref (ad 0)), (1, .int i1), (2, .int i2)] [] := by
    intro i1 n
    induction n with
    | zero => intro i2 Mb h; exact False.elim h
    | succ n hB2 =>
      intro i2 Mb h
      replace h : wp_X7_thinkDays_l2 K i1 (wp_X7_thinkDays_L2 K i1 n) i2 Mb := h
      delta wp_X7_thinkDays_l2 at h
      refine j_iload_n X 2 rfl rfl dX7_thinkDays_2 ?_
      refine j_iload_n X 1 rfl rfl dX7_thinkDays_3 ?_
      refine j_icmp_ge X 21 (by decide) dX7_thinkDays_4 (fun q_201 => ?_) (fun q_201 => ?_)
      · replace h := h.1 q_201
        exact j_vret X hr hlocks dX7_thinkDays_21 h
      · replace h := h.2 q_201
        refine j_aload_n X 0 rfl rfl dX7_thinkDays_7 ?_
        refine j_get X cl_0.1 (wE_7 _ cl_0.2) rfl awF7 2 (by decide) aw_21 rfl (v := .ref (ad 49)) rfl dX7_thinkDays_8 ?_
        refine j_iconst X (v := 0) (by decide) dX7_thinkDays_11 ?_
        refine j_callVNV X (nn := 1) (As := [.int 0]) (st := []) (ci := 0) cl_49.1 (wE_0 _ cl_49.2) rfl aw_439 aw_440 (x_X0_passDay l D y ad 49 0 cl_49 _ _ h) (List.mem_of_getElem? (i := 27) rfl) aw_441 aw_20 (by decide +kernel) ⟨Nat.le_of_ble_eq_true rfl, Nat.le_of_ble_eq_true rfl⟩ rfl (Nat.le_of_ble_eq_true rfl) ⟨Nat.le_of_ble_eq_true rfl, Nat.le_of_ble_eq_true rfl⟩ dX7_thinkDays_12 ?_
        intro M202 h
        refine j_iinc X (v := (i2 + 1)) 2 [(2, .int (i2 + 1)), (0, .ref (ad 0)), (1, .int i1)] rfl rfl (by decide) rfl dX7_thinkDays_15 ?_
        refine j_goto X 2 (by decide) dX7_thinkDays_18 ?_
        refine j_lv (lv1 := [(0, .ref (ad 0)), (1, .int i1), (2, .int (i2 + 1))]) [1, 2, 0] rfl ?_
        exact hB2 _ _ h
  delta wp_X7_thinkDays at h
  refine j_lv (lv1 := [(0, .ref (ad 0)), (1, .int i1)]) [0, 1] rfl ?_
  refine j_iconst X (v := 0) (by decide) dX7_thinkDays_0 ?_
  refine j_istore_n X [(2, .int 0), (0, .ref (ad 0)), (1, .int i1)] rfl (by decide) rfl dX7_thinkDays_1 ?_
  refine j_lv (lv1 := [(0, .ref (ad 0)), (1, .int i1), (2, .int 0)]) [1, 2, 0] rfl ?_
  obtain ⟨n2, h⟩ := h
  exact hL2 _   n2 _ _ h
theorem dX7_think_0 : decode cX7_think 0 = .ok (.aload_n 0, 1) := dk_42 (by decide +kernel)
theorem dX7_think_1 : decode cX7_think 1 = .ok (.getfield 31, 3) := dk_180 (by decide +kernel)
theorem dX7_think_4 : decode cX7_think 4 = .ok (.aload_n 0, 1) := dk_42 (by decide +kernel)
theorem dX7_think_5 : decode cX7_think 5 = .ok (.getfield 12, 3) := dk_180 (by decide +kernel)
theorem dX7_think_8 : decode cX7_think 8 = .ok (.getfield 72, 3) := dk_180 (by decide +kernel)
theorem dX7_think_11 : decode cX7_think 11 = .ok (.invokevirtual 315, 3) := dk_182 (by decide +kernel)
theorem dX7_think_14 : decode cX7_think 14 = .ok (.return_, 1) := dk_177 (by decide +kernel)
set_option maxRecDepth 100000 in
set_option maxHeartbeats 8000000 in
theorem x_X7_think (l : Launch) (D : va_G) (y : wY) (ad : Nat → Nat) (M : Mem) (K : Mem → Prop) (h : wp_X7_think M K) : MV l D y ad yX7_think (Cond.code yX7_think cX7_think 1 none) 2 M [.ref (ad 0)] K := by
  refine MV_of (by decide) (Nat.le_of_ble_eq_true rfl) ?_
  intro p e s m args below meth c X hr hlocks
  delta wp_X7_think at h
  refine j_lv (lv1 := [(0, .ref (ad 0))]) [0] rfl ?_
  refine j_aload_n X 0 rfl rfl dX7_think_0 ?_
  refine j_get X cl_0.1 (wE_7 _ cl_0.2) rfl awF7 2 (by decide) aw_21 rfl (v := .ref (ad 49)) rfl dX7_think_1 ?_
  refine j_aload_n X 0 rfl rfl dX7_think_4 ?_
  refine j_get X cl_0.1 (wE_7 _ cl_0.2) rfl awF7 0 (by decide) aw_16 rfl (v := .ref (ad 1)) rfl dX7_think_5 ?_
  refine j_getN X cl_1.1 (wE_6 _ cl_1.2) rfl awF6 2 (by decide) (List.mem_of_getElem? (i := 23) rfl) rfl (v := .ref (ad 12)) rfl dX7_think_8 ?_
  refine j_callVNV X (nn := 1) (As := [.ref (ad 12)]) (st := []) (ci := 0) cl_49.1 (wE_0 _ cl_49.2) rfl aw_537 aw_538 (x_X0_copyFrom l D y ad 49 12 cl_49 cl_12 _ _ h) (List.mem_of_getElem? (i := 33) rfl) aw_539 aw_20 (by decide +kernel) ⟨Nat.le_of_ble_eq_true rfl, Nat.le_of_ble_eq_true rfl⟩ rfl (Nat.le_of_ble_eq_true rfl) ⟨Nat.le_of_ble_eq_true rfl, Nat.le_of_ble_eq_true rfl⟩ dX7_think_11 ?_
  intro M1 h
  exact j_vret X hr hlocks dX7_think_14 h
