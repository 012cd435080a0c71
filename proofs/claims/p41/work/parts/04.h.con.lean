theorem dX7_sheet_51 : decode cX7_sheet 51 = .ok (.iload_n 2, 1) := dk_28 (by decide +kernel)
theorem dX7_sheet_52 : decode cX7_sheet 52 = .ok (.ifCond .eq 16, 3) := dk_153 (by decide +kernel)
theorem dX7_sheet_68 : decode cX7_sheet 68 = .ok (.aload_n 0, 1) := dk_42 (by decide +kernel)
theorem dX7_sheet_69 : decode cX7_sheet 69 = .ok (.getfield 51, 3) := dk_180 (by decide +kernel)
theorem dX7_sheet_72 : decode cX7_sheet 72 = .ok (.iload_n 1, 1) := dk_27 (by decide +kernel)
theorem dX7_sheet_73 : decode cX7_sheet 73 = .ok (.aaload, 1) := dk_50 (by decide +kernel)
theorem dX7_sheet_74 : decode cX7_sheet 74 = .ok (.iload_n 2, 1) := dk_28 (by decide +kernel)
theorem dX7_sheet_75 : decode cX7_sheet 75 = .ok (.iload_n 2, 1) := dk_28 (by decide +kernel)
theorem dX7_sheet_76 : decode cX7_sheet 76 = .ok (.ifCond .ne 7, 3) := dk_154 (by decide +kernel)
theorem dX7_sheet_83 : decode cX7_sheet 83 = .ok (.iload_n 3, 1) := dk_29 (by decide +kernel)
theorem dX7_sheet_84 : decode cX7_sheet 84 = .ok (.invokevirtual 271, 3) := dk_182 (by decide +kernel)
theorem dX7_sheet_87 : decode cX7_sheet 87 = .ok (.iconst 1, 1) := dk_4 (by decide +kernel)
theorem dX7_sheet_88 : decode cX7_sheet 88 = .ok (.ireturn, 1) := dk_172 (by decide +kernel)
theorem dX7_sheet_79 : decode cX7_sheet 79 = .ok (.iconst 0, 1) := dk_3 (by decide +kernel)
theorem dX7_sheet_80 : decode cX7_sheet 80 = .ok (.goto 4, 3) := dk_167 (by decide +kernel)
theorem dX7_sheet_55 : decode cX7_sheet 55 = .ok (.iload_n 3, 1) := dk_29 (by decide +kernel)
theorem dX7_sheet_56 : decode cX7_sheet 56 = .ok (.bipush 40, 2) := dk_16 (by decide +kernel)
theorem dX7_sheet_58 : decode cX7_sheet 58 = .ok (.if_icmp .le 10, 3) := dk_164 (by decide +kernel)
theorem dX7_sheet_61 : decode cX7_sheet 61 = .ok (.aload_n 0, 1) := dk_42 (by decide +kernel)
theorem dX7_sheet_62 : decode cX7_sheet 62 = .ok (.ldc 68, 2) := dk_18 (by decide +kernel)
theorem dX7_sheet_64 : decode cX7_sheet 64 = .ok (.invokevirtual 69, 3) := dk_182 (by decide +kernel)
theorem dX7_sheet_67 : decode cX7_sheet 67 = .ok (.ireturn, 1) := dk_172 (by decide +kernel)
theorem dX7_sheet_0 : decode cX7_sheet 0 = .ok (.iload_n 1, 1) := dk_27 (by decide +kernel)
theorem dX7_sheet_1 : decode cX7_sheet 1 = .ok (.invokestatic 225, 3) := dk_184 (by decide +kernel)
theorem dX7_sheet_4 : decode cX7_sheet 4 = .ok (.ifCond .eq 25, 3) := dk_153 (by decide +kernel)
theorem dX7_sheet_29 : decode cX7_sheet 29 = .ok (.aload_n 0, 1) := dk_42 (by decide +kernel)
theorem dX7_sheet_30 : decode cX7_sheet 30 = .ok (.ldc 68, 2) := dk_18 (by decide +kernel)
theorem dX7_sheet_32 : decode cX7_sheet 32 = .ok (.invokevirtual 69, 3) := dk_182 (by decide +kernel)
theorem dX7_sheet_35 : decode cX7_sheet 35 = .ok (.ireturn, 1) := dk_172 (by decide +kernel)
theorem dX7_sheet_7 : decode cX7_sheet 7 = .ok (.iload_n 2, 1) := dk_28 (by decide +kernel)
theorem dX7_sheet_8 : decode cX7_sheet 8 = .ok (.ifCond .eq 28, 3) := dk_153 (by decide +kernel)
theorem dX7_sheet_36 : decode cX7_sheet 36 = .ok (.iload_n 2, 1) := dk_28 (by decide +kernel)
theorem dX7_sheet_37 : decode cX7_sheet 37 = .ok (.ifCond .eq 14, 3) := dk_153 (by decide +kernel)
theorem dX7_sheet_40 : decode cX7_sheet 40 = .ok (.iload_n 3, 1) := dk_29 (by decide +kernel)
theorem dX7_sheet_41 : decode cX7_sheet 41 = .ok (.ifCond .ge 10, 3) := dk_156 (by decide +kernel)
theorem dX7_sheet_44 : decode cX7_sheet 44 = .ok (.aload_n 0, 1) := dk_42 (by decide +kernel)
theorem dX7_sheet_45 : decode cX7_sheet 45 = .ok (.ldc 177, 2) := dk_18 (by decide +kernel)
theorem dX7_sheet_47 : decode cX7_sheet 47 = .ok (.invokevirtual 69, 3) := dk_182 (by decide +kernel)
theorem dX7_sheet_50 : decode cX7_sheet 50 = .ok (.ireturn, 1) := dk_172 (by decide +kernel)
theorem dX7_sheet_11 : decode cX7_sheet 11 = .ok (.iload_n 2, 1) := dk_28 (by decide +kernel)
theorem dX7_sheet_12 : decode cX7_sheet 12 = .ok (.bipush 8, 2) := dk_16 (by decide +kernel)
theorem dX7_sheet_14 : decode cX7_sheet 14 = .ok (.if_icmp .eq 22, 3) := dk_159 (by decide +kernel)
theorem dX7_sheet_17 : decode cX7_sheet 17 = .ok (.iload_n 2, 1) := dk_28 (by decide +kernel)
theorem dX7_sheet_18 : decode cX7_sheet 18 = .ok (.bipush 16, 2) := dk_16 (by decide +kernel)
theorem dX7_sheet_20 : decode cX7_sheet 20 = .ok (.if_icmp .eq 16, 3) := dk_159 (by decide +kernel)
theorem dX7_sheet_23 : decode cX7_sheet 23 = .ok (.iload_n 2, 1) := dk_28 (by decide +kernel)
theorem dX7_sheet_24 : decode cX7_sheet 24 = .ok (.bipush 32, 2) := dk_16 (by decide +kernel)
theorem dX7_sheet_26 : decode cX7_sheet 26 = .ok (.if_icmp .eq 10, 3) := dk_159 (by decide +kernel)
set_option maxRecDepth 100000 in
set_option maxHeartbeats 8000000 in
theorem x_X7_sheet (l : Launch) (D : va_G) (y : wY) (ad : Nat → Nat) (i1 : Int32) (i2 : Int32) (i3 : Int32) (M : Mem) (K : Int32 → Mem → Prop) (h : wp_X7_sheet i1 i2 i3 M K) : MI l D y ad yX7_sheet (Cond.code yX7_sheet cX7_sheet 4 (some .int)) 2 M [.ref (ad 0), .int i1, .int i2, .int i3] K := by
  refine MI_of (by decide) (Nat.le_of_ble_eq_true rfl) ?_
  intro p e s m args below meth c X hr hlocks
  have hb51 : ∀ (i1 : Int32) (i2 : Int32) (i3 : Int32) (Mb : Mem), wp_X7_sheet_b51 K i1 i2 i3 Mb → J p l e (rmN 2) s m args below meth c 0 0 (QI K D y ad M s args below) D y ad (va_A (PL y ad M) s.heap.size) 4 Mb 51 [(0, .ref (ad 0)), (1, .int i1), (2, .int i2), (3, .int i3)] [] := by
    intro i1 i2 i3 Mb h
    delta wp_X7_sheet_b51 at h
    refine j_iload_n X 2 rfl rfl dX7_sheet_51 ?_
    refine j_if_eq X 68 (by decide) dX7_sheet_52 (fun q_5101 => ?_) (fun q_5101 => ?_)
    · replace h := h.1 q_5101
      refine j_aload_n X 0 rfl rfl dX7_sheet_68 ?_
      refine j_get X cl_0.1 (wE_7 _ cl_0.2) rfl awF7 5 (by decide) aw_31 rfl (v := .ref (ad 69)) rfl dX7_sheet_69 ?_
      refine j_iload_n X 1 rfl rfl dX7_sheet_72 ?_
      obtain ⟨hi_5102, h⟩ := h
      refine j_aald11 X cl_69.1 cl_69.2 hi_5102 dX7_sheet_73 ?_
      refine j_eqr (v := (70 + 2 * i1.toNatClampNeg)) (re_69 hi_5102) ?_
      have hk_5103 := rc_69 hi_5102
      refine j_iload_n X 2 rfl rfl dX7_sheet_74 ?_
      refine j_iload_n X 2 rfl rfl dX7_sheet_75 ?_
      refine j_if_ne X 83 (by decide) dX7_sheet_76 (fun q_5104 => ?_) (fun q_5104 => ?_)
      · replace h := h.1 q_5104
        refine j_iload_n X 3 rfl rfl dX7_sheet_83 ?_
        refine j_callVNV X (nn := 2) (As := [.int i2, .int i3]) (st := []) (ci := 3) hk_5103.1 (wE_3 _ hk_5103.2) rfl aw_812 aw_813 (x_X3_lay l D y ad (70 + 2 * i1.toNatClampNeg) i2 i3 hk_5103 _ _ h) (List.mem_of_getElem? (i := 45) rfl) aw_814 aw_35 (by decide +kernel) ⟨Nat.le_of_ble_eq_true rfl, Nat.le_of_ble_eq_true rfl⟩ rfl (Nat.le_of_ble_eq_true rfl) ⟨Nat.le_of_ble_eq_true rfl, Nat.le_of_ble_eq_true rfl⟩ dX7_sheet_84 ?_
        intro M5105 h
        refine j_iconst X (v := 1) (by decide) dX7_sheet_87 ?_
        exact j_iret X hr hlocks dX7_sheet_88 h
      · replace h := h.2 q_5104
        refine j_iconst X (v := 0) (by decide) dX7_sheet_79 ?_
        refine j_goto X 84 (by decide) dX7_sheet_80 ?_
        refine j_callVNV X (nn := 2) (As := [.int i2, .int 0]) (st := []) (ci := 3) hk_5103.1 (wE_3 _ hk_5103.2) rfl aw_812 aw_813 (x_X3_lay l D y ad (70 + 2 * i1.toNatClampNeg) i2 0 hk_5103 _ _ h) (List.mem_of_getElem? (i := 45) rfl) aw_814 aw_35 (by decide +kernel) ⟨Nat.le_of_ble_eq_true rfl, Nat.le_of_ble_eq_true rfl⟩ rfl (Nat.le_of_ble_eq_true rfl) ⟨Nat.le_of_ble_eq_true rfl, Nat.le_of_ble_eq_true rfl⟩ dX7_sheet_84 ?_
        intro M5106 h
        refine j_iconst X (v := 1) (by decide) dX7_sheet_87 ?_
        exact j_iret X hr hlocks dX7_sheet_88 h
    · replace h := h.2 q_5101
      refine j_iload_n X 3 rfl rfl dX7_sheet_55 ?_
      refine j_bipush X (v := 40) (by decide) dX7_sheet_56 ?_
      refine j_icmp_le X 68 (by decide) dX7_sheet_58 (fun q_5107 => ?_) (fun q_5107 => ?_)
      · replace h := h.1 q_5107
        refine j_aload_n X 0 rfl rfl dX7_sheet_68 ?_
        refine j_get X cl_0.1 (wE_7 _ cl_0.2) rfl awF7 5 (by decide) aw_31 rfl (v := .ref (ad 69)) rfl dX7_sheet_69 ?_
        refine j_iload_n X 1 rfl rfl dX7_sheet_72 ?_
        obtain ⟨hi_5108, h⟩ := h
        refine j_aald11 X cl_69.1 cl_69.2 hi_5108 dX7_sheet_73 ?_
        refine j_eqr (v := (70 + 2 * i1.toNatClampNeg)) (re_69 hi_5108) ?_
        have hk_5109 := rc_69 hi_5108
        refine j_iload_n X 2 rfl rfl dX7_sheet_74 ?_
        refine j_iload_n X 2 rfl rfl dX7_sheet_75 ?_
        refine j_if_ne X 83 (by decide) dX7_sheet_76 (fun q_5110 => ?_) (fun q_5110 => ?_)
        · replace h := h.1 q_5110
          refine j_iload_n X 3 rfl rfl dX7_sheet_83 ?_
          refine j_callVNV X (nn := 2) (As := [.int i2, .int i3]) (st := []) (ci := 3) hk_5109.1 (wE_3 _ hk_5109.2) rfl aw_812 aw_813 (x_X3_lay l D y ad (70 + 2 * i1.toNatClampNeg) i2 i3 hk_5109 _ _ h) (List.mem_of_getElem? (i := 45) rfl) aw_814 aw_35 (by decide +kernel) ⟨Nat.le_of_ble_eq_true rfl, Nat.le_of_ble_eq_true rfl⟩ rfl (Nat.le_of_ble_eq_true rfl) ⟨Nat.le_of_ble_eq_true rfl, Nat.le_of_ble_eq_true rfl⟩ dX7_sheet_84 ?_
          intro M5111 h
          refine j_iconst X (v := 1) (by decide) dX7_sheet_87 ?_
          exact j_iret X hr hlocks dX7_sheet_88 h
        · replace h := h.2 q_5110
          refine j_iconst X (v := 0) (by decide) dX7_sheet_79 ?_
          refine j_goto X 84 (by decide) dX7_sheet_80 ?_
          refine j_callVNV X (nn := 2) (As := [.int i2, .int 0]) (st := []) (ci := 3) hk_5109.1 (wE_3 _ hk_5109.2) rfl aw_812 aw_813 (x_X3_lay l D y ad (70 + 2 * i1.toNatClampNeg) i2 0 hk_5109 _ _ h) (List.mem_of_getElem? (i := 45) rfl) aw_814 aw_35 (by decide +kernel) ⟨Nat.le_of_ble_eq_true rfl, Nat.le_of_ble_eq_true rfl⟩ rfl (Nat.le_of_ble_eq_true rfl) ⟨Nat.le_of_ble_eq_true rfl, Nat.le_of_ble_eq_true rfl⟩ dX7_sheet_84 ?_
          intro M5112 h
          refine j_iconst X (v := 1) (by decide) dX7_sheet_87 ?_
          exact j_iret X hr hlocks dX7_sheet_88 h
      · replace h := h.2 q_5107
        refine j_aload_n X 0 rfl rfl dX7_sheet_61 ?_
        refine j_ldc X (v := (-1000000001)) aw_108 dX7_sheet_62 ?_
        refine j_callVI X (nn := 1) (As := [.int (-1000000001)]) (st := []) (ci := 7) cl_0.1 (wE_7 _ cl_0.2) rfl aw_117 aw_118 (x_X7_refuse l D y ad (-1000000001) _ _ h) aw_116 aw_119 aw_2 (by decide +kernel) ⟨Nat.le_of_ble_eq_true rfl, Nat.le_of_ble_eq_true rfl⟩ rfl (Nat.le_of_ble_eq_true rfl) ⟨Nat.le_of_ble_eq_true rfl, Nat.le_of_ble_eq_true rfl⟩ dX7_sheet_64 ?_
        intro r5113 M5113 h
        exact j_iret X hr hlocks dX7_sheet_67 h
  delta wp_X7_sheet at h
  refine j_lv (lv1 := [(0, .ref (ad 0)), (1, .int i1), (2, .int i2), (3, .int i3)]) [0, 1, 2, 3] rfl ?_
  refine j_iload_n X 1 rfl rfl dX7_sheet_0 ?_
  refine j_callSI X (nn := 1) (As := [.int i1]) (st := []) aw_639 (x_X7_isSheet l D y ad i1 _ _ h) aw_638 aw_640 aw_2 (by decide +kernel) ⟨Nat.le_of_ble_eq_true rfl, Nat.le_of_ble_eq_true rfl⟩ rfl (Nat.le_of_ble_eq_true rfl) ⟨Nat.le_of_ble_eq_true rfl, Nat.le_of_ble_eq_true rfl⟩ dX7_sheet_1 ?_
  intro r1 M1 h
  refine j_if_eq X 29 (by decide) dX7_sheet_4 (fun q_2 => ?_) (fun q_2 => ?_)
  · replace h := h.1 q_2
    refine j_aload_n X 0 rfl rfl dX7_sheet_29 ?_
    refine j_ldc X (v := (-1000000001)) aw_108 dX7_sheet_30 ?_
    refine j_callVI X (nn := 1) (As := [.int (-1000000001)]) (st := []) (ci := 7) cl_0.1 (wE_7 _ cl_0.2) rfl aw_117 aw_118 (x_X7_refuse l D y ad (-1000000001) _ _ h) aw_116 aw_119 aw_2 (by decide +kernel) ⟨Nat.le_of_ble_eq_true rfl, Nat.le_of_ble_eq_true rfl⟩ rfl (Nat.le_of_ble_eq_true rfl) ⟨Nat.le_of_ble_eq_true rfl, Nat.le_of_ble_eq_true rfl⟩ dX7_sheet_32 ?_
    intro r3 M3 h
    exact j_iret X hr hlocks dX7_sheet_35 h
  · replace h := h.2 q_2
    refine j_iload_n X 2 rfl rfl dX7_sheet_7 ?_
    refine j_if_eq X 36 (by decide) dX7_sheet_8 (fun q_4 => ?_) (fun q_4 => ?_)
    · replace h := h.1 q_4
      refine j_iload_n X 2 rfl rfl dX7_sheet_36 ?_
      refine j_if_eq X 51 (by decide) dX7_sheet_37 (fun q_5 => ?_) (fun q_5 => ?_)
      · replace h := h.1 q_5
        refine j_lv (lv1 := [(0, .ref (ad 0)), (1, .int i1), (2, .int i2), (3, .int i3)]) [0, 1, 2, 3] rfl ?_
        exact hb51 _ _ _  _ h
      · replace h := h.2 q_5
        refine j_iload_n X 3 rfl rfl dX7_sheet_40 ?_
        refine j_if_ge X 51 (by decide) dX7_sheet_41 (fun q_6 => ?_) (fun q_6 => ?_)
        · replace h := h.1 q_6
          refine j_lv (lv1 := [(0, .ref (ad 0)), (1, .int i1), (2, .int i2), (3, .int i3)]) [0, 1, 2, 3] rfl ?_
          exact hb51 _ _ _  _ h
        · replace h := h.2 q_6
          refine j_aload_n X 0 rfl rfl dX7_sheet_44 ?_
          refine j_ldc X (v := (-1000000003)) aw_438 dX7_sheet_45 ?_
          refine j_callVI X (nn := 1) (As := [.int (-1000000003)]) (st := []) (ci := 7) cl_0.1 (wE_7 _ cl_0.2) rfl aw_117 aw_118 (x_X7_refuse l D y ad (-1000000003) _ _ h) aw_116 aw_119 aw_2 (by decide +kernel) ⟨Nat.le_of_ble_eq_true rfl, Nat.le_of_ble_eq_true rfl⟩ rfl (Nat.le_of_ble_eq_true rfl) ⟨Nat.le_of_ble_eq_true rfl, Nat.le_of_ble_eq_true rfl⟩ dX7_sheet_47 ?_
          intro r7 M7 h
          exact j_iret X hr hlocks dX7_sheet_50 h
    · replace h := h.2 q_4
      refine j_iload_n X 2 rfl rfl dX7_sheet_11 ?_
      refine j_bipush X (v := 8) (by decide) dX7_sheet_12 ?_
      refine j_icmp_eq X 36 (by decide) dX7_sheet_14 (fun q_8 => ?_) (fun q_8 => ?_)
      · replace h := h.1 q_8
        refine j_iload_n X 2 rfl rfl dX7_sheet_36 ?_
        refine j_if_eq X 51 (by decide) dX7_sheet_37 (fun q_9 => ?_) (fun q_9 => ?_)
        · replace h := h.1 q_9
          refine j_lv (lv1 := [(0, .ref (ad 0)), (1, .int i1), (2, .int i2), (3, .int i3)]) [0, 1, 2, 3] rfl ?_
          exact hb51 _ _ _  _ h
        · replace h := h.2 q_9
          refine j_iload_n X 3 rfl rfl dX7_sheet_40 ?_
          refine j_if_ge X 51 (by decide) dX7_sheet_41 (fun q_10 => ?_) (fun q_10 => ?_)
          · replace h := h.1 q_10
            refine j_lv (lv1 := [(0, .ref (ad 0)), (1, .int i1), (2, .int i2), (3, .int i3)]) [0, 1, 2, 3] rfl ?_
            exact hb51 _ _ _  _ h
          · replace h := h.2 q_10
            refine j_aload_n X 0 rfl rfl dX7_sheet_44 ?_
            refine j_ldc X (v := (-1000000003)) aw_438 dX7_sheet_45 ?_
            refine j_callVI X (nn := 1) (As := [.int (-1000000003)]) (st := []) (ci := 7) cl_0.1 (wE_7 _ cl_0.2) rfl aw_117 aw_118 (x_X7_refuse l D y ad (-1000000003) _ _ h) aw_116 aw_119 aw_2 (by decide +kernel) ⟨Nat.le_of_ble_eq_true rfl, Nat.le_of_ble_eq_true rfl⟩ rfl (Nat.le_of_ble_eq_true rfl) ⟨Nat.le_of_ble_eq_true rfl, Nat.le_of_ble_eq_true rfl⟩ dX7_sheet_47 ?_
            intro r11 M11 h
            exact j_iret X hr hlocks dX7_sheet_50 h
      · replace h := h.2 q_8
        refine j_iload_n X 2 rfl rfl dX7_sheet_17 ?_
        refine j_bipush X (v := 16) (by decide) dX7_sheet_18 ?_
        refine j_icmp_eq X 36 (by decide) dX7_sheet_20 (fun q_12 => ?_) (fun q_12 => ?_)
        · replace h := h.1 q_12
          refine j_iload_n X 2 rfl rfl dX7_sheet_36 ?_
          refine j_if_eq X 51 (by decide) dX7_sheet_37 (fun q_13 => ?_) (fun q_13 => ?_)
          · replace h := h.1 q_13
            refine j_lv (lv1 := [(0, .ref (ad 0)), (1, .int i1), (2, .int i2), (3, .int i3)]) [0, 1, 2, 3] rfl ?_
            exact hb51 _ _ _  _ h
          · replace h := h.2 q_13
            refine j_iload_n X 3 rfl rfl dX7_sheet_40 ?_
            refine j_if_ge X 51 (by decide) dX7_sheet_41 (fun q_14 => ?_) (fun q_14 => ?_)
            · replace h := h.1 q_14
              refine j_lv (lv1 := [(0, .ref (ad 0)), (1, .int i1), (2, .int i2), (3, .int i3)]) [0, 1, 2, 3] rfl ?_
              exact hb51 _ _ _  _ h
            · replace h := h.2 q_14
              refine j_aload_n X 0 rfl rfl dX7_sheet_44 ?_
              refine j_ldc X (v := (-1000000003)) aw_438 dX7_sheet_45 ?_
              refine j_callVI X (nn := 1) (As := [.int (-1000000003)]) (st := []) (ci := 7) cl_0.1 (wE_7 _ cl_0.2) rfl aw_117 aw_118 (x_X7_refuse l D y ad (-1000000003) _ _ h) aw_116 aw_119 aw_2 (by decide +kernel) ⟨Nat.le_of_ble_eq_true rfl, Nat.le_of_ble_eq_true rfl⟩ rfl (Nat.le_of_ble_eq_true rfl) ⟨Nat.le_of_ble_eq_true rfl, Nat.le_of_ble_eq_true rfl⟩ dX7_sheet_47 ?_
              intro r15 M15 h
              exact j_iret X hr hlocks dX7_sheet_50 h
        · replace h := h.2 q_12
          refine j_iload_n X 2 rfl rfl dX7_sheet_23 ?_
          refine j_bipush X (v := 32) (by decide) dX7_sheet_24 ?_
          refine j_icmp_eq X 36 (by decide) dX7_sheet_26 (fun q_16 => ?_) (fun q_16 => ?_)
          · replace h := h.1 q_16
            refine j_iload_n X 2 rfl rfl dX7_sheet_36 ?_
            refine j_if_eq X 51 (by decide) dX7_sheet_37 (fun q_17 => ?_) (fun q_17 => ?_)
            · replace h := h.1 q_17
              refine j_lv (lv1 := [(0, .ref (ad 0)), (1, .int i1), (2, .int i2), (3, .int i3)]) [0, 1, 2, 3] rfl ?_
              exact hb51 _ _ _  _ h
            · replace h := h.2 q_17
              refine j_iload_n X 3 rfl rfl dX7_sheet_40 ?_
              refine j_if_ge X 51 (by decide) dX7_sheet_41 (fun q_18 => ?_) (fun q_18 => ?_)
              · replace h := h.1 q_18
                refine j_lv (lv1 := [(0, .ref (ad 0)), (1, .int i1), (2, .int i2), (3, .int i3)]) [0, 1, 2, 3] rfl ?_
                exact hb51 _ _ _  _ h
              · replace h := h.2 q_18
                refine j_aload_n X 0 rfl rfl dX7_sheet_44 ?_
                refine j_ldc X (v := (-1000000003)) aw_438 dX7_sheet_45 ?_
                refine j_callVI X (nn := 1) (As := [.int (-1000000003)]) (st := []) (ci := 7) cl_0.1 (wE_7 _ cl_0.2) rfl aw_117 aw_118 (x_X7_refuse l D y ad (-1000000003) _ _ h) aw_116 aw_119 aw_2 (by decide +kernel) ⟨Nat.le_of_ble_eq_true rfl, Nat.le_of_ble_eq_true rfl⟩ rfl (Nat.le_of_ble_eq_true rfl) ⟨Nat.le_of_ble_eq_true rfl, Nat.le_of_ble_eq_true rfl⟩ dX7_sheet_47 ?_
                intro r19 M19 h
                exact j_iret X hr hlocks dX7_sheet_50 h
          · replace h := h.2 q_16
            refine j_aload_n X 0 rfl rfl dX7_sheet_29 ?_
            refine j_ldc X (v := (-1000000001)) aw_108 dX7_sheet_30 ?_
            refine j_callVI X (nn := 1) (As := [.int (-1000000001)]) (st := []) (ci := 7) cl_0.1 (wE_7 _ cl_0.2) rfl aw_117 aw_118 (x_X7_refuse l D y ad (-1000000001) _ _ h) aw_116 aw_119 aw_2 (by decide +kernel) ⟨Nat.le_of_ble_eq_true rfl, Nat.le_of_ble_eq_true rfl⟩ rfl (Nat.le_of_ble_eq_true rfl) ⟨Nat.le_of_ble_eq_true rfl, Nat.le_of_ble_eq_true rfl⟩ dX7_sheet_32 ?_
            intro r20 M20 h
            exact j_iret X hr hlocks dX7_sheet_35 h
theorem dX7_put_0 : decode cX7_put 0 = .ok (.iload_n 1, 1) := dk_27 (by decide +kernel)
theorem dX7_put_1 : decode cX7_put 1 = .ok (.invokestatic 225, 3) := dk_184 (by decide +kernel)
theorem dX7_put_4 : decode cX7_put 4 = .ok (.ifCond .ne 10, 3) := dk_154 (by decide +kernel)
theorem dX7_put_14 : decode cX7_put 14 = .ok (.aload_n 0, 1) := dk_42 (by decide +kernel)
theorem dX7_put_15 : decode cX7_put 15 = .ok (.getfield 51, 3) := dk_180 (by decide +kernel)
theorem dX7_put_18 : decode cX7_put 18 = .ok (.iload_n 1, 1) := dk_27 (by decide +kernel)
theorem dX7_put_19 : decode cX7_put 19 = .ok (.aaload, 1) := dk_50 (by decide +kernel)
theorem dX7_put_20 : decode cX7_put 20 = .ok (.astore 4, 2) := dk_58 (by decide +kernel)
theorem dX7_put_22 : decode cX7_put 22 = .ok (.aload 4, 2) := dk_25 (by decide +kernel)
theorem dX7_put_24 : decode cX7_put 24 = .ok (.invokevirtual 228, 3) := dk_182 (by decide +kernel)
theorem dX7_put_27 : decode cX7_put 27 = .ok (.ifCond .eq 10, 3) := dk_153 (by decide +kernel)
theorem dX7_put_37 : decode cX7_put 37 = .ok (.iload_n 2, 1) := dk_28 (by decide +kernel)
theorem dX7_put_38 : decode cX7_put 38 = .ok (.iconst 0, 1) := dk_3 (by decide +kernel)
theorem dX7_put_39 : decode cX7_put 39 = .ok (.aload 4, 2) := dk_25 (by decide +kernel)
theorem dX7_put_41 : decode cX7_put 41 = .ok (.getfield 232, 3) := dk_180 (by decide +kernel)
theorem dX7_put_44 : decode cX7_put 44 = .ok (.iconst 1, 1) := dk_4 (by decide +kernel)
theorem dX7_put_45 : decode cX7_put 45 = .ok (.isub, 1) := dk_100 (by decide +kernel)
theorem dX7_put_46 : decode cX7_put 46 = .ok (.invokestatic 60, 3) := dk_184 (by decide +kernel)
theorem dX7_put_49 : decode cX7_put 49 = .ok (.ifCond .ne 10, 3) := dk_154 (by decide +kernel)
theorem dX7_put_59 : decode cX7_put 59 = .ok (.aload 4, 2) := dk_25 (by decide +kernel)
theorem dX7_put_61 : decode cX7_put 61 = .ok (.iload_n 2, 1) := dk_28 (by decide +kernel)
theorem dX7_put_62 : decode cX7_put 62 = .ok (.iload_n 3, 1) := dk_29 (by decide +kernel)
theorem dX7_put_63 : decode cX7_put 63 = .ok (.invokevirtual 275, 3) := dk_182 (by decide +kernel)
theorem dX7_put_66 : decode cX7_put 66 = .ok (.iconst 1, 1) := dk_4 (by decide +kernel)
theorem dX7_put_67 : decode cX7_put 67 = .ok (.ireturn, 1) := dk_172 (by decide +kernel)
theorem dX7_put_52 : decode cX7_put 52 = .ok (.aload_n 0, 1) := dk_42 (by decide +kernel)
theorem dX7_put_53 : decode cX7_put 53 = .ok (.ldc 68, 2) := dk_18 (by decide +kernel)
theorem dX7_put_55 : decode cX7_put 55 = .ok (.invokevirtual 69, 3) := dk_182 (by decide +kernel)
theorem dX7_put_58 : decode cX7_put 58 = .ok (.ireturn, 1) := dk_172 (by decide +kernel)
theorem dX7_put_30 : decode cX7_put 30 = .ok (.aload_n 0, 1) := dk_42 (by decide +kernel)
theorem dX7_put_31 : decode cX7_put 31 = .ok (.ldc 197, 2) := dk_18 (by decide +kernel)
theorem dX7_put_33 : decode cX7_put 33 = .ok (.invokevirtual 69, 3) := dk_182 (by decide +kernel)
theorem dX7_put_36 : decode cX7_put 36 = .ok (.ireturn, 1) := dk_172 (by decide +kernel)
theorem dX7_put_7 : decode cX7_put 7 = .ok (.aload_n 0, 1) := dk_42 (by decide +kernel)
theorem dX7_put_8 : decode cX7_put 8 = .ok (.ldc 68, 2) := dk_18 (by decide +kernel)
theorem dX7_put_10 : decode cX7_put 10 = .ok (.invokevirtual 69, 3) := dk_182 (by decide +kernel)
theorem dX7_put_13 : decode cX7_put 13 = .ok (.ireturn, 1) := dk_172 (by decide +kernel)
set_option maxRecDepth 100000 in
set_option maxHeartbeats 8000000 in
theorem x_X7_put (l : Launch) (D : va_G) (y : wY) (ad : Nat → Nat) (i1 : Int32) (i2 : Int32) (i3 : Int32) (M : Mem) (K : Int32 → Mem → Prop) (h : wp_X7_put i1 i2 i3 M K) : MI l D y ad yX7_put (Cond.code yX7_put cX7_put 5 (some .int)) 2 M [.ref (ad 0), .int i1, .int i2, .int i3] K := by
  refine MI_of (by decide) (Nat.le_of_ble_eq_true rfl) ?_
  intro p e s m args below meth c X hr hlocks
  delta wp_X7_put at h
  refine j_lv (lv1 := [(0, .ref (ad 0)), (1, .int i1), (2, .int i2), (3, .int i3)]) [0, 1, 2, 3] rfl ?_
  refine j_iload_n X 1 rfl rfl dX7_put_0 ?_
  refine j_callSI X (nn := 1) (As := [.int i1]) (st := []) aw_639 (x_X7_isSheet l D y ad i1 _ _ h) aw_638 aw_640 aw_2 (by decide +kernel) ⟨Nat.le_of_ble_eq_true rfl, Nat.le_of_ble_eq_true rfl⟩ rfl (Nat.le_of_ble_eq_true rfl) ⟨Nat.le_of_ble_eq_true rfl, Nat.le_of_ble_eq_true rfl⟩ dX7_put_1 ?_
  intro r1 M1 h
  refine j_if_ne X 14 (by decide) dX7_put_4 (fun q_2 => ?_) (fun q_2 => ?_)
  · replace h := h.1 q_2
    refine j_aload_n X 0 rfl rfl dX7_put_14 ?_
    refine j_get X cl_0.1 (wE_7 _ cl_0.2) rfl awF7 5 (by decide) aw_31 rfl (v := .ref (ad 69)) rfl dX7_put_15 ?_
    refine j_iload_n X 1 rfl rfl dX7_put_18 ?_
    obtain ⟨hi_3, h⟩ := h
    refine j_aald11 X cl_69.1 cl_69.2 hi_3 dX7_put_19 ?_
    refine j_eqr (v := (70 + 2 * i1.toNatClampNeg)) (re_69 hi_3) ?_
    have hk_4 := rc_69 hi_3
    refine j_astore X [(4, .ref (ad (70 + 2 * i1.toNatClampNeg))), (0, .ref (ad 0)), (1, .int i1), (2, .int i2), (3, .int i3)] (by decide) rfl dX7_put_20 ?_
    refine j_aload X 0 rfl dX7_put_22 ?_
    refine j_callVNI X (nn := 0) (As := []) (st := []) (ci := 3) hk_4.1 (wE_3 _ hk_4.2) rfl aw_641 aw_642 (x_X3_isMissing l D y ad (70 + 2 * i1.toNatClampNeg) hk_4 _ _ h) (List.mem_of_getElem? (i := 38) rfl) aw_643 aw_35 (by decide +kernel) ⟨Nat.le_of_ble_eq_true rfl, Nat.le_of_ble_eq_true rfl⟩ rfl (Nat.le_of_ble_eq_true rfl) ⟨Nat.le_of_ble_eq_true rfl, Nat.le_of_ble_eq_true rfl⟩ dX7_put_24 ?_
    intro r5 M5 h
    refine j_if_eq X 37 (by decide) dX7_put_27 (fun q_6 => ?_) (fun q_6 => ?_)
    · replace h := h.1 q_6
      refine j_iload_n X 3 rfl rfl dX7_put_37 ?_
      refine j_iconst X (v := 0) (by decide) dX7_put_38 ?_
      refine j_aload X 0 rfl dX7_put_39 ?_
      refine j_getN X hk_4.1 (wE_3 _ hk_4.2) rfl awF3 2 (by decide) (List.mem_of_getElem? (i := 36) rfl) rfl (v := .int (M5 (70 + 2 * i1.toNatClampNeg) 2)) rfl dX7_put_41 ?_
      refine j_iconst X (v := 1) (by decide) dX7_put_44 ?_
      refine j_isub X dX7_put_45 ?_
      refine j_callSI X (nn := 3) (As := [.int i2, .int 0, .int ((M5 (70 + 2 * i1.toNatClampNeg) 2) - 1)]) (st := []) aw_110 (x_X7_isWithin l D y ad i2 0 ((M5 (70 + 2 * i1.toNatClampNeg) 2) - 1) _ _ h) aw_109 aw_111 aw_2 (by decide +kernel) ⟨Nat.le_of_ble_eq_true rfl, Nat.le_of_ble_eq_true rfl⟩ rfl (Nat.le_of_ble_eq_true rfl) ⟨Nat.le_of_ble_eq_true rfl, Nat.le_of_ble_eq_true rfl⟩ dX7_put_46 ?_
      intro r7 M7 h
      refine j_if_ne X 59 (by decide) dX7_put_49 (fun q_8 => ?_) (fun q_8 => ?_)
      · replace h := h.1 q_8
        refine j_aload X 0 rfl dX7_put_59 ?_
        refine j_iload_n X 3 rfl rfl dX7_put_61 ?_
        refine j_iload_n X 4 rfl rfl dX7_put_62 ?_
        refine j_callVNV X (nn := 2) (As := [.int i2, .int i3]) (st := []) (ci := 3) hk_4.1 (wE_3 _ hk_4.2) rfl aw_824 aw_825 (x_X3_write l D y ad (70 + 2 * i1.toNatClampNeg) i2 i3 hk_4 _ _ h) (List.mem_of_getElem? (i := 46) rfl) aw_826 aw_35 (by decide +kernel) ⟨Nat.le_of_ble_eq_true rfl, Nat.le_of_ble_eq_true rfl⟩ rfl (Nat.le_of_ble_eq_true rfl) ⟨Nat.le_of_ble_eq_true rfl, Nat.le_of_ble_eq_true rfl⟩ dX7_put_63 ?_
        intro M9 h
        refine j_iconst X (v := 1) (by decide) dX7_put_66 ?_
        exact j_iret X hr hlocks dX7_put_67 h
      · replace h := h.2 q_8
        refine j_aload_n X 1 rfl rfl dX7_put_52 ?_
        refine j_ldc X (v := (-1000000001)) aw_108 dX7_put_53 ?_
        refine j_callVI X (nn := 1) (As := [.int (-1000000001)]) (st := []) (ci := 7) cl_0.1 (wE_7 _ cl_0.2) rfl aw_117 aw_118 (x_X7_refuse l D y ad (-1000000001) _ _ h) aw_116 aw_119 aw_2 (by decide +kernel) ⟨Nat.le_of_ble_eq_true rfl, Nat.le_of_ble_eq_true rfl⟩ rfl (Nat.le_of_ble_eq_true rfl) ⟨Nat.le_of_ble_eq_true rfl, Nat.le_of_ble_eq_true rfl⟩ dX7_put_55 ?_
        intro r10 M10 h
        exact j_iret X hr hlocks dX7_put_58 h
    · replace h := h.2 q_6
      refine j_aload_n X 1 rfl rfl dX7_put_30 ?_
      refine j_ldc X (v := (-1000000002)) aw_560 dX7_put_31 ?_
      refine j_callVI X (nn := 1) (As := [.int (-1000000002)]) (st := []) (ci := 7) cl_0.1 (wE_7 _ cl_0.2) rfl aw_117 aw_118 (x_X7_refuse l D y ad (-1000000002) _ _ h) aw_116 aw_119 aw_2 (by decide +kernel) ⟨Nat.le_of_ble_eq_true rfl, Nat.le_of_ble_eq_true rfl⟩ rfl (Nat.le_of_ble_eq_true rfl) ⟨Nat.le_of_ble_eq_true rfl, Nat.le_of_ble_eq_true rfl⟩ dX7_put_33 ?_
      intro r11 M11 h
      exact j_iret X hr hlocks dX7_put_36 h
  · replace h := h.2 q_2
    refine j_aload_n X 0 rfl rfl dX7_put_7 ?_
    refine j_ldc X (v := (-1000000001)) aw_108 dX7_put_8 ?_
    refine j_callVI X (nn := 1) (As := [.int (-1000000001)]) (st := []) (ci := 7) cl_0.1 (wE_7 _ cl_0.2) rfl aw_117 aw_118 (x_X7_refuse l D y ad (-1000000001) _ _ h) aw_116 aw_119 aw_2 (by decide +kernel) ⟨Nat.le_of_ble_eq_true rfl, Nat.le_of_ble_eq_true rfl⟩ rfl (Nat.le_of_ble_eq_true rfl) ⟨Nat.le_of_ble_eq_true rfl, Nat.le_of_ble_eq_true rfl⟩ dX7_put_10 ?_
    intro r12 M12 h
    exact j_iret X hr hlocks dX7_put_13 h
theorem dX7_move_0 : decode cX7_move 0 = .ok (.iload_n 1, 1) := dk_27 (by decide +kernel)
theorem dX7_move_1 : decode cX7_move 1 = .ok (.invokestatic 225, 3) := dk_184 (by decide +kernel)
theorem dX7_move_4 : decode cX7_move 4 = .ok (.ifCond .eq 10, 3) := dk_153 (by decide +kernel)
theorem dX7_move_14 : decode cX7_move 14 = .ok (.aload_n 0, 1) := dk_42 (by decide +kernel)
theorem dX7_move_15 : decode cX7_move 15 = .ok (.ldc 68, 2) := dk_18 (by decide +kernel)
theorem dX7_move_17 : decode cX7_move 17 = .ok (.invokevirtual 69, 3) := dk_182 (by decide +kernel)
theorem dX7_move_20 : decode cX7_move 20 = .ok (.ireturn, 1) := dk_172 (by decide +kernel)
theorem dX7_move_7 : decode cX7_move 7 = .ok (.iload_n 3, 1) := dk_29 (by decide +kernel)
theorem dX7_move_8 : decode cX7_move 8 = .ok (.invokestatic 225, 3) := dk_184 (by decide +kernel)
theorem dX7_move_11 : decode cX7_move 11 = .ok (.ifCond .ne 10, 3) := dk_154 (by decide +kernel)
theorem dX7_move_21 : decode cX7_move 21 = .ok (.aload_n 0, 1) := dk_42 (by decide +kernel)
theorem dX7_move_22 : decode cX7_move 22 = .ok (.getfield 51, 3) := dk_180 (by decide +kernel)
theorem dX7_move_25 : decode cX7_move 25 = .ok (.iload_n 1, 1) := dk_27 (by decide +kernel)
theorem dX7_move_26 : decode cX7_move 26 = .ok (.aaload, 1) := dk_50 (by decide +kernel)
theorem dX7_move_27 : decode cX7_move 27 = .ok (.astore 6, 2) := dk_58 (by decide +kernel)
theorem dX7_move_29 : decode cX7_move 29 = .ok (.aload_n 0, 1) := dk_42 (by decide +kernel)
theorem dX7_move_30 : decode cX7_move 30 = .ok (.getfield 51, 3) := dk_180 (by decide +kernel)
theorem dX7_move_33 : decode cX7_move 33 = .ok (.iload_n 3, 1) := dk_29 (by decide +kernel)
theorem dX7_move_34 : decode cX7_move 34 = .ok (.aaload, 1) := dk_50 (by decide +kernel)
theorem dX7_move_35 : decode cX7_move 35 = .ok (.astore 7, 2) := dk_58 (by decide +kernel)
theorem dX7_move_37 : decode cX7_move 37 = .ok (.aload 6, 2) := dk_25 (by decide +kernel)
theorem dX7_move_39 : decode cX7_move 39 = .ok (.invokevirtual 228, 3) := dk_182 (by decide +kernel)
theorem dX7_move_42 : decode cX7_move 42 = .ok (.ifCond .ne 11, 3) := dk_154 (by decide +kernel)
theorem dX7_move_53 : decode cX7_move 53 = .ok (.aload_n 0, 1) := dk_42 (by decide +kernel)
theorem dX7_move_54 : decode cX7_move 54 = .ok (.ldc 197, 2) := dk_18 (by decide +kernel)
theorem dX7_move_56 : decode cX7_move 56 = .ok (.invokevirtual 69, 3) := dk_182 (by decide +kernel)
theorem dX7_move_59 : decode cX7_move 59 = .ok (.ireturn, 1) := dk_172 (by decide +kernel)
theorem dX7_move_45 : decode cX7_move 45 = .ok (.aload 7, 2) := dk_25 (by decide +kernel)
theorem dX7_move_47 : decode cX7_move 47 = .ok (.invokevirtual 228, 3) := dk_182 (by decide +kernel)
theorem dX7_move_50 : decode cX7_move 50 = .ok (.ifCond .eq 10, 3) := dk_153 (by decide +kernel)
theorem dX7_move_60 : decode cX7_move 60 = .ok (.aload 6, 2) := dk_25 (by decide +kernel)
theorem dX7_move_62 : decode cX7_move 62 = .ok (.getfield 278, 3) := dk_180 (by decide +kernel)
theorem dX7_move_65 : decode cX7_move 65 = .ok (.aload 7, 2) := dk_25 (by decide +kernel)
theorem dX7_move_67 : decode cX7_move 67 = .ok (.getfield 278, 3) := dk_180 (by decide +kernel)
theorem dX7_move_70 : decode cX7_move 70 = .ok (.if_icmp .eq 10, 3) := dk_159 (by decide +kernel)
theorem dX7_move_80 : decode cX7_move 80 = .ok (.aload 6, 2) := dk_25 (by decide +kernel)
theorem dX7_move_82 : decode cX7_move 82 = .ok (.iload_n 2, 1) := dk_28 (by decide +kernel)
theorem dX7_move_83 : decode cX7_move 83 = .ok (.iload 5, 2) := dk_21 (by decide +kernel)
theorem dX7_move_85 : decode cX7_move 85 = .ok (.invokevirtual 281, 3) := dk_182 (by decide +kernel)
theorem dX7_move_88 : decode cX7_move 88 = .ok (.ifCond .eq 15, 3) := dk_153 (by decide +kernel)
theorem dX7_move_103 : decode cX7_move 103 = .ok (.aload_n 0, 1) := dk_42 (by decide +kernel)
theorem dX7_move_104 : decode cX7_move 104 = .ok (.ldc 68, 2) := dk_18 (by decide +kernel)
theorem dX7_move_106 : decode cX7_move 106 = .ok (.invokevirtual 69, 3) := dk_182 (by decide +kernel)
theorem dX7_move_109 : decode cX7_move 109 = .ok (.ireturn, 1) := dk_172 (by decide +kernel)
theorem dX7_move_91 : decode cX7_move 91 = .ok (.aload 7, 2) := dk_25 (by decide +kernel)
theorem dX7_move_93 : decode cX7_move 93 = .ok (.iload 4, 2) := dk_21 (by decide +kernel)
theorem dX7_move_95 : decode cX7_move 95 = .ok (.iload 5, 2) := dk_21 (by decide +kernel)
theorem dX7_move_97 : decode cX7_move 97 = .ok (.invokevirtual 281, 3) := dk_182 (by decide +kernel)
theorem dX7_move_100 : decode cX7_move 100 = .ok (.ifCond .ne 10, 3) := dk_154 (by decide +kernel)
theorem dX7_move_110 : decode cX7_move 110 = .ok (.aload 6, 2) := dk_25 (by decide +kernel)
theorem dX7_move_112 : decode cX7_move 112 = .ok (.getfield 284, 3) := dk_180 (by decide +kernel)
theorem dX7_move_115 : decode cX7_move 115 = .ok (.iload_n 2, 1) := dk_28 (by decide +kernel)
theorem dX7_move_116 : decode cX7_move 116 = .ok (.aload 7, 2) := dk_25 (by decide +kernel)
theorem dX7_move_118 : decode cX7_move 118 = .ok (.getfield 284, 3) := dk_180 (by decide +kernel)
theorem dX7_move_121 : decode cX7_move 121 = .ok (.iload 4, 2) := dk_21 (by decide +kernel)
theorem dX7_move_123 : decode cX7_move 123 = .ok (.iload 5, 2) := dk_21 (by decide +kernel)
theorem dX7_move_125 : decode cX7_move 125 = .ok (.invokestatic 287, 3) := dk_184 (by decide +kernel)
theorem dX7_move_128 : decode cX7_move 128 = .ok (.iload 5, 2) := dk_21 (by decide +kernel)
theorem dX7_move_130 : decode cX7_move 130 = .ok (.ireturn, 1) := dk_172 (by decide +kernel)
theorem dX7_move_73 : decode cX7_move 73 = .ok (.aload_n 0, 1) := dk_42 (by decide +kernel)
theorem dX7_move_74 : decode cX7_move 74 = .ok (.ldc 146, 2) := dk_18 (by decide +kernel)
theorem dX7_move_76 : decode cX7_move 76 = .ok (.invokevirtual 69, 3) := dk_182 (by decide +kernel)
theorem dX7_move_79 : decode cX7_move 79 = .ok (.ireturn, 1) := dk_172 (by decide +kernel)
set_option maxRecDepth 100000 in
set_option maxHeartbeats 8000000 in
theorem x_X7_move (l : Launch) (D : va_G) (y : wY) (ad : Nat → Nat) (i1 : Int32) (i2 : Int32) (i3 : Int32) (i4 : Int32) (i5 : Int32) (M : Mem) (K : Int32 → Mem → Prop) (h : wp_X7_move i1 i2 i3 i4 i5 M K) : MI l D y ad yX7_move (Cond.code yX7_move cX7_move 8 (some .int)) 2 M [.ref (ad 0), .int i1, .int i2, .int i3, .int i4, .int i5] K := by
  refine MI_of (by decide) (Nat.le_of_ble_eq_true rfl) ?_
  intro p e s m args below meth c X hr hlocks
  delta wp_X7_move at h
  refine j_lv (lv1 := [(0, .ref (ad 0)), (1, .int i1), (2, .int i2), (3, .int i3), (4, .int i4), (5, .int i5)]) [0, 1, 2, 3, 4, 5] rfl ?_
  refine j_iload_n X 1 rfl rfl dX7_move_0 ?_
  refine j_callSI X (nn := 1) (As := [.int i1]) (st := []) aw_639 (x_X7_isSheet l D y ad i1 _ _ h) aw_638 aw_640 aw_2 (by decide +kernel) ⟨Nat.le_of_ble_eq_true rfl, Nat.le_of_ble_eq_true rfl⟩ rfl (Nat.le_of_ble_eq_true rfl) ⟨Nat.le_of_ble_eq_true rfl, Nat.le_of_ble_eq_true rfl⟩ dX7_move_1 ?_
  intro r1 M1 h
  refine j_if_eq X 14 (by decide) dX7_move_4 (fun q_2 => ?_) (fun q_2 => ?_)
  · replace h := h.1 q_2
    refine j_aload_n X 0 rfl rfl dX7_move_14 ?_
    refine j_ldc X (v := (-1000000001)) aw_108 dX7_move_15 ?_
    refine j_callVI X (nn := 1) (As := [.int (-1000000001)]) (st := []) (ci := 7) cl_0.1 (wE_7 _ cl_0.2) rfl aw_117 aw_118 (x_X7_refuse l D y ad (-1000000001) _ _ h) aw_116 aw_119 aw_2 (by decide +kernel) ⟨Nat.le_of_ble_eq_true rfl, Nat.le_of_ble_eq_true rfl⟩ rfl (Nat.le_of_ble_eq_true rfl) ⟨Nat.le_of_ble_eq_true rfl, Nat.le_of_ble_eq_true rfl⟩ dX7_move_17 ?_
    intro r3 M3 h
    exact j_iret X hr hlocks dX7_move_20 h
  · replace h := h.2 q_2
    refine j_iload_n X 3 rfl rfl dX7_move_7 ?_
    refine j_callSI X (nn := 1) (As := [.int i3]) (st := []) aw_639 (x_X7_isSheet l D y ad i3 _ _ h) aw_638 aw_640 aw_2 (by decide +kernel) ⟨Nat.le_of_ble_eq_true rfl, Nat.le_of_ble_eq_true rfl⟩ rfl (Nat.le_of_ble_eq_true rfl) ⟨Nat.le_of_ble_eq_true rfl, Nat.le_of_ble_eq_true rfl⟩ dX7_move_8 ?_
    intro r4 M4 h
    refine j_if_ne X 21 (by decide) dX7_move_11 (fun q_5 => ?_) (fun q_5 => ?_)
    · replace h := h.1 q_5
      refine j_aload_n X 0 rfl rfl dX7_move_21 ?_
      refine j_get X cl_0.1 (wE_7 _ cl_0.2) rfl awF7 5 (by decide) aw_31 rfl (v := .ref (ad 69)) rfl dX7_move_22 ?_
      refine j_iload_n X 1 rfl rfl dX7_move_25 ?_
      obtain ⟨hi_6, h⟩ := h
      refine j_aald11 X cl_69.1 cl_69.2 hi_6 dX7_move_26 ?_
      refine j_eqr (v := (70 + 2 * i1.toNatClampNeg)) (re_69 hi_6) ?_
      have hk_7 := rc_69 hi_6
      refine j_astore X [(6, .ref (ad (70 + 2 * i1.toNatClampNeg))), (0, .ref (ad 0)), (1, .int i1), (2, .int i2), (3, .int i3), (4, .int i4), (5, .int i5)] (by decide) rfl dX7_move_27 ?_
      refine j_aload_n X 1 rfl rfl dX7_move_29 ?_
      refine j_get X cl_0.1 (wE_7 _ cl_0.2) rfl awF7 5 (by decide) aw_31 rfl (v := .ref (ad 69)) rfl dX7_move_30 ?_
      refine j_iload_n X 4 rfl rfl dX7_move_33 ?_
      obtain ⟨hi_8, h⟩ := h
      refine j_aald11 X cl_69.1 cl_69.2 hi_8 dX7_move_34 ?_
      refine j_eqr (v := (70 + 2 * i3.toNatClampNeg)) (re_69 hi_8) ?_
      have hk_9 := rc_69 hi_8
      refine j_astore X [(7, .ref (ad (70 + 2 * i3.toNatClampNeg))), (6, .ref (ad (70 + 2 * i1.toNatClampNeg))), (0, .ref (ad 0)), (1, .int i1), (2, .int i2), (3, .int i3), (4, .int i4), (5, .int i5)] (by decide) rfl dX7_move_35 ?_
      refine j_aload X 1 rfl dX7_move_37 ?_
      refine j_callVNI X (nn := 0) (As := []) (st := []) (ci := 3) hk_7.1 (wE_3 _ hk_7.2) rfl aw_641 aw_642 (x_X3_isMissing l D y ad (70 + 2 * i1.toNatClampNeg) hk_7 _ _ h) (List.mem_of_getElem? (i := 38) rfl) aw_643 aw_35 (by decide +kernel) ⟨Nat.le_of_ble_eq_true rfl, Nat.le_of_ble_eq_true rfl⟩ rfl (Nat.le_of_ble_eq_true rfl) ⟨Nat.le_of_ble_eq_true rfl, Nat.le_of_ble_eq_true rfl⟩ dX7_move_39 ?_
      intro r10 M10 h
      refine j_if_ne X 53 (by decide) dX7_move_42 (fun q_11 => ?_) (fun q_11 => ?_)
      · replace h := h.1 q_11
        refine j_aload_n X 2 rfl rfl dX7_move_53 ?_
        refine j_ldc X (v := (-1000000002)) aw_560 dX7_move_54 ?_
        refine j_callVI X (nn := 1) (As := [.int (-1000000002)]) (st := []) (ci := 7) cl_0.1 (wE_7 _ cl_0.2) rfl aw_117 aw_118 (x_X7_refuse l D y ad (-1000000002) _ _ h) aw_116 aw_119 aw_2 (by decide +kernel) ⟨Nat.le_of_ble_eq_true rfl, Nat.le_of_ble_eq_true rfl⟩ rfl (Nat.le_of_ble_eq_true rfl) ⟨Nat.le_of_ble_eq_true rfl, Nat.le_of_ble_eq_true rfl⟩ dX7_move_56 ?_
        intro r12 M12 h
        exact j_iret X hr hlocks dX7_move_59 h
      · replace h := h.2 q_11
        refine j_aload X 0 rfl dX7_move_45 ?_
        refine j_callVNI X (nn := 0) (As := []) (st := []) (ci := 3) hk_9.1 (wE_3 _ hk_9.2) rfl aw_641 aw_642 (x_X3_isMissing l D y ad (70 + 2 * i3.toNatClampNeg) hk_9 _ _ h) (List.mem_of_getElem? (i := 38) rfl) aw_643 aw_35 (by decide +kernel) ⟨Nat.le_of_ble_eq_true rfl, Nat.le_of_ble_eq_true rfl⟩ rfl (Nat.le_of_ble_eq_true rfl) ⟨Nat.le_of_ble_eq_true rfl, Nat.le_of_ble_eq_true rfl⟩ dX7_move_47 ?_
        intro r13 M13 h
        refine j_if_eq X 60 (by decide) dX7_move_50 (fun q_14 => ?_) (fun q_14 => ?_)
        · replace h := h.1 q_14
          refine j_aload X 1 rfl dX7_move_60 ?_
          refine j_getN X hk_7.1 (wE_3 _ hk_7.2) rfl awF3 1 (by decide) (List.mem_of_getElem? (i := 34) rfl) rfl (v := .int (M13 (70 + 2 * i1.toNatClampNeg) 1)) rfl dX7_move_62 ?_
          refine j_aload X 0 rfl dX7_move_65 ?_
          refine j_getN X hk_9.1 (wE_3 _ hk_9.2) rfl awF3 1 (by decide) (List.mem_of_getElem? (i := 34) rfl) rfl (v := .int (M13 (70 + 2 * i3.toNatClampNeg) 1)) rfl dX7_move_67 ?_
          refine j_icmp_eq X 80 (by decide) dX7_move_70 (fun q_15 => ?_) (fun q_15 => ?_)
          · replace h := h.1 q_15
            refine j_aload X 1 rfl dX7_move_80 ?_
            refine j_iload_n X 4 rfl rfl dX7_move_82 ?_
            refine j_iload X 7 rfl dX7_move_83 ?_
            refine j_callVNI X (nn := 2) (As := [.int i2, .int i5]) (st := []) (ci := 3) hk_7.1 (wE_3 _ hk_7.2) rfl aw_839 aw_840 (x_X3_hasNumbers l D y ad (70 + 2 * i1.toNatClampNeg) i2 i5 hk_7 _ _ h) (List.mem_of_getElem? (i := 47) rfl) aw_841 aw_35 (by decide +kernel) ⟨Nat.le_of_ble_eq_true rfl, Nat.le_of_ble_eq_true rfl⟩ rfl (Nat.le_of_ble_eq_true rfl) ⟨Nat.le_of_ble_eq_true rfl, Nat.le_of_ble_eq_true rfl⟩ dX7_move_85 ?_
            intro r16 M16 h
            refine j_if_eq X 103 (by decide) dX7_move_88 (fun q_17 => ?_) (fun q_17 => ?_)
            · replace h := h.1 q_17
              refine j_aload_n X 2 rfl rfl dX7_move_103 ?_
              refine j_ldc X (v := (-1000000001)) aw_108 dX7_move_104 ?_
              refine j_callVI X (nn := 1) (As := [.int (-1000000001)]) (st := []) (ci := 7) cl_0.1 (wE_7 _ cl_0.2) rfl aw_117 aw_118 (x_X7_refuse l D y ad (-1000000001) _ _ h) aw_116 aw_119 aw_2 (by decide +kernel) ⟨Nat.le_of_ble_eq_true rfl, Nat.le_of_ble_eq_true rfl⟩ rfl (Nat.le_of_ble_eq_true rfl) ⟨Nat.le_of_ble_eq_true rfl, Nat.le_of_ble_eq_true rfl⟩ dX7_move_106 ?_
              intro r18 M18 h
              exact j_iret X hr hlocks dX7_move_109 h
            · replace h := h.2 q_17
              refine j_aload X 0 rfl dX7_move_91 ?_
              refine j_iload X 6 rfl dX7_move_93 ?_
              refine j_iload X 7 rfl dX7_move_95 ?_
              refine j_callVNI X (nn := 2) (As := [.int i4, .int i5]) (st := []) (ci := 3) hk_9.1 (wE_3 _ hk_9.2) rfl aw_839 aw_840 (x_X3_hasNumbers l D y ad (70 + 2 * i3.toNatClampNeg) i4 i5 hk_9 _ _ h) (List.mem_of_getElem? (i := 47) rfl) aw_841 aw_35 (by decide +kernel) ⟨Nat.le_of_ble_eq_true rfl, Nat.le_of_ble_eq_true rfl⟩ rfl (Nat.le_of_ble_eq_true rfl) ⟨Nat.le_of_ble_eq_true rfl, Nat.le_of_ble_eq_true rfl⟩ dX7_move_97 ?_
              intro r19 M19 h
              refine j_if_ne X 110 (by decide) dX7_move_100 (fun q_20 => ?_) (fun q_20 => ?_)
              · replace h := h.1 q_20
                refine j_aload X 1 rfl dX7_move_110 ?_
                refine j_getN X hk_7.1 (wE_3 _ hk_7.2) rfl awF3 0 (by decide) (List.mem_of_getElem? (i := 33) rfl) rfl (v := .ref (ad (rf (70 + 2 * i1.toNatClampNeg) 0))) rfl dX7_move_112 ?_
                have hk_21 := kf_3_0 hk_7
                refine j_iload_n X 4 rfl rfl dX7_move_115 ?_
                refine j_aload X 0 rfl dX7_move_116 ?_
                refine j_getN X hk_9.1 (wE_3 _ hk_9.2) rfl awF3 0 (by decide) (List.mem_of_getElem? (i := 33) rfl) rfl (v := .ref (ad (rf (70 + 2 * i3.toNatClampNeg) 0))) rfl dX7_move_118 ?_
                have hk_22 := kf_3_0 hk_9
                refine j_iload X 6 rfl dX7_move_121 ?_
                refine j_iload X 7 rfl dX7_move_123 ?_
                obtain ⟨g_23, h⟩ := h
                obtain ⟨g_24, h⟩ := h
                obtain ⟨g_25, h⟩ := h
                obtain ⟨g_26, h⟩ := h
                obtain ⟨g_27, h⟩ := h
                refine j_copy X (i := (rf (70 + 2 * i1.toNatClampNeg) 0)) (j := (rf (70 + 2 * i3.toNatClampNeg) 0)) aw_838 aw_320 aw_321 aw_322 hk_21.1 hk_22.1 hk_21.2 hk_22.2 g_23 g_24 g_25 g_26 g_27 (Nat.le_of_ble_eq_true rfl) (Nat.le_of_ble_eq_true rfl) dX7_move_125 ?_
                refine j_topM (fun Mg_28 eMg_28 => ?_)
                replace h := h Mg_28 eMg_28
                refine j_iload X 7 rfl dX7_move_128 ?_
                exact j_iret X hr hlocks dX7_move_130 h
              · replace h := h.2 q_20
                refine j_aload_n X 2 rfl rfl dX7_move_103 ?_
                refine j_ldc X (v := (-1000000001)) aw_108 dX7_move_104 ?_
                refine j_callVI X (nn := 1) (As := [.int (-1000000001)]) (st := []) (ci := 7) cl_0.1 (wE_7 _ cl_0.2) rfl aw_117 aw_118 (x_X7_refuse l D y ad (-1000000001) _ _ h) aw_116 aw_119 aw_2 (by decide +kernel) ⟨Nat.le_of_ble_eq_true rfl, Nat.le_of_ble_eq_true rfl⟩ rfl (Nat.le_of_ble_eq_true rfl) ⟨Nat.le_of_ble_eq_true rfl, Nat.le_of_ble_eq_true rfl⟩ dX7_move_106 ?_
                intro r29 M29 h
                exact j_iret X hr hlocks dX7_move_109 h
          · replace h := h.2 q_15
            refine j_aload_n X 2 rfl rfl dX7_move_73 ?_
            refine j_ldc X (v := (-1000000005)) aw_289 dX7_move_74 ?_
            refine j_callVI X (nn := 1) (As := [.int (-1000000005)]) (st := []) (ci := 7) cl_0.1 (wE_7 _ cl_0.2) rfl aw_117 aw_118 (x_X7_refuse l D y ad (-1000000005) _ _ h) aw_116 aw_119 aw_2 (by decide +kernel) ⟨Nat.le_of_ble_eq_true rfl, Nat.le_of_ble_eq_true rfl⟩ rfl (Nat.le_of_ble_eq_true rfl) ⟨Nat.le_of_ble_eq_true rfl, Nat.le_of_ble_eq_true rfl⟩ dX7_move_76 ?_
            intro r30 M30 h
            exact j_iret X hr hlocks dX7_move_79 h
        · replace h := h.2 q_14
          refine j_aload_n X 2 rfl rfl dX7_move_53 ?_
          refine j_ldc X (v := (-1000000002)) aw_560 dX7_move_54 ?_
          refine j_callVI X (nn := 1) (As := [.int (-1000000002)]) (st := []) (ci := 7) cl_0.1 (wE_7 _ cl_0.2) rfl aw_117 aw_118 (x_X7_refuse l D y ad (-1000000002) _ _ h) aw_116 aw_119 aw_2 (by decide +kernel) ⟨Nat.le_of_ble_eq_true rfl, Nat.le_of_ble_eq_true rfl⟩ rfl (Nat.le_of_ble_eq_true rfl) ⟨Nat.le_of_ble_eq_true rfl, Nat.le_of_ble_eq_true rfl⟩ dX7_move_56 ?_
          intro r31 M31 h
          exact j_iret X hr hlocks dX7_move_59 h
    · replace h := h.2 q_5
      refine j_aload_n X 0 rfl rfl dX7_move_14 ?_
      refine j_ldc X (v := (-1000000001)) aw_108 dX7_move_15 ?_
      refine j_callVI X (nn := 1) (As := [.int (-1000000001)]) (st := []) (ci := 7) cl_0.1 (wE_7 _ cl_0.2) rfl aw_117 aw_118 (x_X7_refuse l D y ad (-1000000001) _ _ h) aw_116 aw_119 aw_2 (by decide +kernel) ⟨Nat.le_of_ble_eq_true rfl, Nat.le_of_ble_eq_true rfl⟩ rfl (Nat.le_of_ble_eq_true rfl) ⟨Nat.le_of_ble_eq_true rfl, Nat.le_of_ble_eq_true rfl⟩ dX7_move_17 ?_
      intro r32 M32 h
      exact j_iret X hr hlocks dX7_move_20 h
theorem dX7_edges_56 : decode cX7_edges 56 = .ok (.iload 4, 2) := dk_21 (by decide +kernel)
theorem dX7_edges_58 : decode cX7_edges 58 = .ok (.iload_n 3, 1) := dk_29 (by decide +kernel)
theorem dX7_edges_59 : decode cX7_edges 59 = .ok (.if_icmp .ge 51, 3) := dk_162 (by decide +kernel)
theorem dX7_edges_110 : decode cX7_edges 110 = .ok (.iload_n 3, 1) := dk_29 (by decide +kernel)
theorem dX7_edges_111 : decode cX7_edges 111 = .ok (.ireturn, 1) := dk_172 (by decide +kernel)
theorem dX7_edges_62 : decode cX7_edges 62 = .ok (.aload_n 2, 1) := dk_44 (by decide +kernel)
theorem dX7_edges_63 : decode cX7_edges 63 = .ok (.getfield 284, 3) := dk_180 (by decide +kernel)
theorem dX7_edges_66 : decode cX7_edges 66 = .ok (.iload 4, 2) := dk_21 (by decide +kernel)
theorem dX7_edges_68 : decode cX7_edges 68 = .ok (.iaload, 1) := dk_46 (by decide +kernel)
theorem dX7_edges_69 : decode cX7_edges 69 = .ok (.iconst 0, 1) := dk_3 (by decide +kernel)
theorem dX7_edges_70 : decode cX7_edges 70 = .ok (.bipush 99, 2) := dk_16 (by decide +kernel)
theorem dX7_edges_72 : decode cX7_edges 72 = .ok (.invokestatic 60, 3) := dk_184 (by decide +kernel)
theorem dX7_edges_75 : decode cX7_edges 75 = .ok (.ifCond .ne 6, 3) := dk_154 (by decide +kernel)
theorem dX7_edges_81 : decode cX7_edges 81 = .ok (.aload_n 0, 1) := dk_42 (by decide +kernel)
theorem dX7_edges_82 : decode cX7_edges 82 = .ok (.getfield 12, 3) := dk_180 (by decide +kernel)
theorem dX7_edges_85 : decode cX7_edges 85 = .ok (.getfield 72, 3) := dk_180 (by decide +kernel)
theorem dX7_edges_88 : decode cX7_edges 88 = .ok (.getfield 91, 3) := dk_180 (by decide +kernel)
theorem dX7_edges_91 : decode cX7_edges 91 = .ok (.iload 4, 2) := dk_21 (by decide +kernel)
theorem dX7_edges_93 : decode cX7_edges 93 = .ok (.aaload, 1) := dk_50 (by decide +kernel)
theorem dX7_edges_94 : decode cX7_edges 94 = .ok (.aload_n 2, 1) := dk_44 (by decide +kernel)
theorem dX7_edges_95 : decode cX7_edges 95 = .ok (.getfield 284, 3) := dk_180 (by decide +kernel)
theorem dX7_edges_98 : decode cX7_edges 98 = .ok (.iload 4, 2) := dk_21 (by decide +kernel)
theorem dX7_edges_100 : decode cX7_edges 100 = .ok (.iaload, 1) := dk_46 (by decide +kernel)
theorem dX7_edges_101 : decode cX7_edges 101 = .ok (.putfield 104, 3) := dk_181 (by decide +kernel)
theorem dX7_edges_104 : decode cX7_edges 104 = .ok (.iinc 4 1, 3) := dk_132 (by decide +kernel)
theorem dX7_edges_107 : decode cX7_edges 107 = .ok (.goto (-51), 3) := dk_167 (by decide +kernel)
theorem dX7_edges_78 : decode cX7_edges 78 = .ok (.iload 4, 2) := dk_21 (by decide +kernel)
theorem dX7_edges_80 : decode cX7_edges 80 = .ok (.ireturn, 1) := dk_172 (by decide +kernel)
theorem dX7_edges_0 : decode cX7_edges 0 = .ok (.iload_n 1, 1) := dk_27 (by decide +kernel)
theorem dX7_edges_1 : decode cX7_edges 1 = .ok (.invokestatic 225, 3) := dk_184 (by decide +kernel)
theorem dX7_edges_4 : decode cX7_edges 4 = .ok (.ifCond .ne 10, 3) := dk_154 (by decide +kernel)
theorem dX7_edges_14 : decode cX7_edges 14 = .ok (.aload_n 0, 1) := dk_42 (by decide +kernel)
theorem dX7_edges_15 : decode cX7_edges 15 = .ok (.getfield 51, 3) := dk_180 (by decide +kernel)
theorem dX7_edges_18 : decode cX7_edges 18 = .ok (.iload_n 1, 1) := dk_27 (by decide +kernel)
theorem dX7_edges_19 : decode cX7_edges 19 = .ok (.aaload, 1) := dk_50 (by decide +kernel)
theorem dX7_edges_20 : decode cX7_edges 20 = .ok (.astore_n 2, 1) := dk_77 (by decide +kernel)
theorem dX7_edges_21 : decode cX7_edges 21 = .ok (.aload_n 2, 1) := dk_44 (by decide +kernel)
theorem dX7_edges_22 : decode cX7_edges 22 = .ok (.invokevirtual 228, 3) := dk_182 (by decide +kernel)
theorem dX7_edges_25 : decode cX7_edges 25 = .ok (.ifCond .eq 10, 3) := dk_153 (by decide +kernel)
theorem dX7_edges_35 : decode cX7_edges 35 = .ok (.aload_n 2, 1) := dk_44 (by decide +kernel)
theorem dX7_edges_36 : decode cX7_edges 36 = .ok (.getfield 232, 3) := dk_180 (by decide +kernel)
theorem dX7_edges_39 : decode cX7_edges 39 = .ok (.aload_n 0, 1) := dk_42 (by decide +kernel)
theorem dX7_edges_40 : decode cX7_edges 40 = .ok (.getfield 12, 3) := dk_180 (by decide +kernel)
theorem dX7_edges_43 : decode cX7_edges 43 = .ok (.getfield 72, 3) := dk_180 (by decide +kernel)
theorem dX7_edges_46 : decode cX7_edges 46 = .ok (.getfield 86, 3) := dk_180 (by decide +kernel)
theorem dX7_edges_49 : decode cX7_edges 49 = .ok (.invokestatic 293, 3) := dk_184 (by decide +kernel)
theorem dX7_edges_52 : decode cX7_edges 52 = .ok (.istore_n 3, 1) := dk_62 (by decide +kernel)
theorem dX7_edges_53 : decode cX7_edges 53 = .ok (.iconst 0, 1) := dk_3 (by decide +kernel)
theorem dX7_edges_54 : decode cX7_edges 54 = .ok (.istore 4, 2) := dk_54 (by decide +kernel)
theorem dX7_edges_28 : decode cX7_edges 28 = .ok (.aload_n 0, 1) := dk_42 (by decide +kernel)
theorem dX7_edges_29 : decode cX7_edges 29 = .ok (.ldc 197, 2) := dk_18 (by decide +kernel)
theorem dX7_edges_31 : decode cX7_edges 31 = .ok (.invokevirtual 69, 3) := dk_182 (by decide +kernel)
theorem dX7_edges_34 : decode cX7_edges 34 = .ok (.ireturn, 1) := dk_172 (by decide +kernel)
theorem dX7_edges_7 : decode cX7_edges 7 = .ok (.aload_n 0, 1) := dk_42 (by decide +kernel)
theorem dX7_edges_8 : decode cX7_edges 8 = .ok (.ldc 68, 2) := dk_18 (by decide +kernel)
theorem dX7_edges_10 : decode cX7_edges 10 = .ok (.invokevirtual 69, 3) := dk_182 (by decide +kernel)
theorem dX7_edges_13 : decode cX7_edges 13 = .ok (.ireturn, 1) := dk_172 (by decide +kernel)
set_option maxRecDepth 100000 in
set_option maxHeartbeats 8000000 in
theorem x_X7_edges (l : Launch) (D : va_G) (y : wY) (ad : Nat → Nat) (i1 : Int32) (M : Mem) (K : Int32 → Mem → Prop) (h : wp_X7_edges i1 M K) : MI l D y ad yX7_edges (Cond.code yX7_edges cX7_edges 5 (some .int)) 2 M [.ref (ad 0), .int i1] K := by
  refine MI_of (by decide) (Nat.le_of_ble_eq_true rfl) ?_
  intro p e s m args below meth c X hr hlocks
  have hL56 : ∀ (x2 : Nat) (i3 : Int32) (hx2 : Cl x2 3) (n : Nat) (i4 : Int32) (Mb : Mem), wp_X7_edges_L56 K x2 i3 n i4 Mb → J p l e (rmN 2) s m args below meth c 0 0 (QI K D y ad M s args below) D y ad (va_A (PL y ad M) s.heap.size) 5 Mb 56 [(0, .ref (ad 0)), (2, .ref (ad x2)), (3, .int i3), (4, .int i4)] [] := by
    intro x2 i3 hx2 n
    induction n with
    | zero => intro i4 Mb h; exact False.elim h
    | succ n hB56 =>
      intro i4 Mb h
      replace h : wp_X7_edges_l56 K x2 i3 (wp_X7_edges_L56 K x2 i3 n) i4 Mb := h
      delta wp_X7_edges_l56 at h
      refine j_iload X 3 rfl dX7_edges_56 ?_
      refine j_iload_n X 2 rfl rfl dX7_edges_58 ?_
      refine j_icmp_ge X 110 (by decide) dX7_edges_59 (fun q_5601 => ?_) (fun q_5601 => ?_)
      · replace h := h.1 q_5601
        refine j_iload_n X 2 rfl rfl dX7_edges_110 ?_
        exact j_iret X hr hlocks dX7_edges_111 h
      · replace h := h.2 q_5601
        refine j_aload_n X 1 rfl rfl dX7_edges_62 ?_
        refine j_getN X hx2.1 (wE_3 _ hx2.2) rfl awF3 0 (by decide) (List.mem_of_getElem? (i := 33) rfl) rfl (v := .ref (ad (rf x2 0))) rfl dX7_edges_63 ?_
        have hk_5602 := kf_3_0 hx2
        refine j_iload X 3 rfl dX7_edges_66 ?_
        obtain ⟨hi_5603, h⟩ := h
        refine j_iald X hk_5602.1 hk_5602.2 hi_5603 dX7_edges_68 ?_
        refine j_iconst X (v := 0) (by decide) dX7_edges_69 ?_
        refine j_bipush X (v := 99) (by decide) dX7_edges_70 ?_
        refine j_callSI X (nn := 3) (As := [.int (Mb (rf x2 0) i4.toNatClampNeg), .int 0, .int 99]) (st := []) aw_110 (x_X7_isWithin l D y ad (Mb (rf x2 0) i4.toNatClampNeg) 0 99 _ _ h) aw_109 aw_111 aw_2 (by decide +kernel) ⟨Nat.le_of_ble_eq_true rfl, Nat.le_of_ble_eq_true rfl⟩ rfl (Nat.le_of_ble_eq_true rfl) ⟨Nat.le_of_ble_eq_true rfl, Nat.le_of_ble_eq_true rfl⟩ dX7_edges_72 ?_
        intro r5604 M5604 h
        refine j_if_ne X 81 (by decide) dX7_edges_75 (fun q_5605 => ?_) (fun q_5605 => ?_)
        · replace h := h.1 q_5605
          refine j_aload_n X 0 rfl rfl dX7_edges_81 ?_
          refine j_get X cl_0.1 (wE_7 _ cl_0.2) rfl awF7 0 (by decide) aw_16 rfl (v := .ref (ad 1)) rfl dX7_edges_82 ?_
          refine j_getN X cl_1.1 (wE_6 _ cl_1.2) rfl awF6 2 (by decide) (List.mem_of_getElem? (i := 23) rfl) rfl (v := .ref (ad 12)) rfl dX7_edges_85 ?_
          refine j_getN X cl_12.1 (wE_0 _ cl_12.2) rfl awF0 2 (by decide) (List.mem_of_getElem? (i := 14) rfl) rfl (v := .ref (ad 13)) rfl dX7_edges_88 ?_
          refine j_iload X 3 rfl dX7_edges_91 ?_
          obtain ⟨hi_5606, h⟩ := h
          refine j_aald10 X cl_13.1 cl_13.2 hi_5606 dX7_edges_93 ?_
          refine j_eqr (v := (14 + i4.toNatClampNeg)) (re_13 hi_5606) ?_
          have hk_5607 := rc_13 hi_5606
          refine j_aload_n X 1 rfl rfl dX7_edges_94 ?_
          refine j_getN X hx2.1 (wE_3 _ hx2.2) rfl awF3 0 (by decide) (List.mem_of_getElem? (i := 33) rfl) rfl (v := .ref (ad (rf x2 0))) rfl dX7_edges_95 ?_
          refine j_iload X 3 rfl dX7_edges_98 ?_
          obtain ⟨hi_5608, h⟩ := h
          refine j_iald X hk_5602.1 hk_5602.2 hi_5608 dX7_edges_100 ?_
          refine j_putN X (up M5604 (14 + i4.toNatClampNeg) 3 (M5604 (rf x2 0) i4.toNatClampNeg)) up_o hk_5607.1 (wE_1 _ hk_5607.2) rfl awF1 3 (by decide) (wP_1_3 _ _ hk_5607.2) tyX1 tyX1_ok nmX1 rfl (ty := .int) (by decide +kernel) rfl rfl (Nat.le_of_ble_eq_true rfl) (List.mem_of_getElem? (i := 6) rfl) rfl dX7_edges_101 ?_
          refine j_iinc X (v := (i4 + 1)) 3 [(4, .int (i4 + 1)), (0, .ref (ad 0)), (2, .ref (ad x2)), (3, .int i3)] rfl rfl (by decide) rfl dX7_edges_104 ?_
          refine j_goto X 56 (by decide) dX7_edges_107 ?_
          refine j_lv (lv1 := [(0, .ref (ad 0)), (2, .ref (ad x2)), (3, .int i3), (4, .int (i4 + 1))]) [1, 2, 3, 0] rfl ?_
          exact hB56 _ _ h
        · replace h := h.2 q_5605
          refine j_iload X 3 rfl dX7_edges_78 ?_
          exact j_iret X hr hlocks dX7_edges_80 h
  delta wp_X7_edges at h
  refine j_lv (lv1 := [(0, .ref (ad 0)), (1, .int i1)]) [0, 1] rfl ?_
  refine j_iload_n X 1 rfl rfl dX7_edges_0 ?_
  refine j_callSI X (nn := 1) (As := [.int i1]) (st := []) aw_639 (x_X7_isSheet l D y ad i1 _ _ h) aw_638 aw_640 aw_2 (by decide +kernel) ⟨Nat.le_of_ble_eq_true rfl, Nat.le_of_ble_eq_true rfl⟩ rfl (Nat.le_of_ble_eq_true rfl) ⟨Nat.le_of_ble_eq_true rfl, Nat.le_of_ble_eq_true rfl⟩ dX7_edges_1 ?_
  intro r1 M1 h
  refine j_if_ne X 14 (by decide) dX7_edges_4 (fun q_2 => ?_) (fun q_2 => ?_)
  · replace h := h.1 q_2
    refine j_aload_n X 0 rfl rfl dX7_edges_14 ?_
    refine j_get X cl_0.1 (wE_7 _ cl_0.2) rfl awF7 5 (by decide) aw_31 rfl (v := .ref (ad 69)) rfl dX7_edges_15 ?_
    refine j_iload_n X 1 rfl rfl dX7_edges_18 ?_
    obtain ⟨hi_3, h⟩ := h
    refine j_aald11 X cl_69.1 cl_69.2 hi_3 dX7_edges_19 ?_
    refine j_eqr (v := (70 + 2 * i1.toNatClampNeg)) (re_69 hi_3) ?_
    have hk_4 := rc_69 hi_3
    refine j_astore_n X [(2, .ref (ad (70 + 2 * i1.toNatClampNeg))), (0, .ref (ad 0)), (1, .int i1)] rfl (by decide) rfl dX7_edges_20 ?_
    refine j_aload_n X 0 rfl rfl dX7_edges_21 ?_
    refine j_callVNI X (nn := 0) (As := []) (st := []) (ci := 3) hk_4.1 (wE_3 _ hk_4.2) rfl aw_641 aw_642 (x_X3_isMissing l D y ad (70 + 2 * i1.toNatClampNeg) hk_4 _ _ h) (List.mem_of_getElem? (i := 38) rfl) aw_643 aw_35 (by decide +kernel) ⟨Nat.le_of_ble_eq_true rfl, Nat.le_of_ble_eq_true rfl⟩ rfl (Nat.le_of_ble_eq_true rfl) ⟨Nat.le_of_ble_eq_true rfl, Nat.le_of_ble_eq_true rfl⟩ dX7_edges_22 ?_
    intro r5 M5 h
    refine j_if_eq X 35 (by decide) dX7_edges_25 (fun q_6 => ?_) (fun q_6 => ?_)
    · replace h := h.1 q_6
      refine j_aload_n X 0 rfl rfl dX7_edges_35 ?_
      refine j_getN X hk_4.1 (wE_3 _ hk_4.2) rfl awF3 2 (by decide) (List.mem_of_getElem? (i := 36) rfl) rfl (v := .int (M5 (70 + 2 * i1.toNatClampNeg) 2)) rfl dX7_edges_36 ?_
      refine j_aload_n X 1 rfl rfl dX7_edges_39 ?_
      refine j_get X cl_0.1 (wE_7 _ cl_0.2) rfl awF7 0 (by decide) aw_16 rfl (v := .ref (ad 1)) rfl dX7_edges_40 ?_
      refine j_getN X cl_1.1 (wE_6 _ cl_1.2) rfl awF6 2 (by decide) (List.mem_of_getElem? (i := 23) rfl) rfl (v := .ref (ad 12)) rfl dX7_edges_43 ?_
      refine j_getN X cl_12.1 (wE_0 _ cl_12.2) rfl awF0 3 (by decide) (List.mem_of_getElem? (i := 15) rfl) rfl (v := .int (M5 12 3)) rfl dX7_edges_46 ?_
      refine j_mmin X aw_850 aw_202 aw_203 aw_204 (Nat.le_of_ble_eq_true rfl) (Nat.le_of_ble_eq_true rfl) (by decide) (by decide) dX7_edges_49 ?_
      refine j_topi (fun g_7 eg_7 => ?_)
      replace h := h g_7 eg_7
      refine j_istore_n X [(3, .int g_7), (2, .ref (ad (70 + 2 * i1.toNatClampNeg))), (0, .ref (ad 0)), (1, .int i1)] rfl (by decide) rfl dX7_edges_52 ?_
      refine j_iconst X (v := 0) (by decide) dX7_edges_53 ?_
      refine j_istore X [(4, .int 0), (3, .int g_7), (2, .ref (ad (70 + 2 * i1.toNatClampNeg))), (0, .ref (ad 0)), (1, .int i1)] (by decide) rfl dX7_edges_54 ?_
      refine j_lv (lv1 := [(0, .ref (ad 0)), (2, .ref (ad (70 + 2 * i1.toNatClampNeg))), (3, .int g_7), (4, .int 0)]) [3, 2, 1, 0] rfl ?_
      obtain ⟨n56, h⟩ := h
      exact hL56 _ _ hk_4  n56 _ _ h
    · replace h := h.2 q_6
      refine j_aload_n X 1 rfl rfl dX7_edges_28 ?_
      refine j_ldc X (v := (-1000000002)) aw_560 dX7_edges_29 ?_
      refine j_callVI X (nn := 1) (As := [.int (-1000000002)]) (st := []) (ci := 7) cl_0.1 (wE_7 _ cl_0.2) rfl aw_117 aw_118 (x_X7_refuse l D y ad (-1000000002) _ _ h) aw_116 aw_119 aw_2 (by decide +kernel) ⟨Nat.le_of_ble_eq_true rfl, Nat.le_of_ble_eq_true rfl⟩ rfl (Nat.le_of_ble_eq_true rfl) ⟨Nat.le_of_ble_eq_true rfl, Nat.le_of_ble_eq_true rfl⟩ dX7_edges_31 ?_
      intro r8 M8 h
      exact j_iret X hr hlocks dX7_edges_34 h
  · replace h := h.2 q_2
    refine j_aload_n X 0 rfl rfl dX7_edges_7 ?_
    refine j_ldc X (v := (-1000000001)) aw_108 dX7_edges_8 ?_
    refine j_callVI X (nn := 1) (As := [.int (-1000000001)]) (st := []) (ci := 7) cl_0.1 (wE_7 _ cl_0.2) rfl aw_117 aw_118 (x_X7_refuse l D y ad (-1000000001) _ _ h) aw_116 aw_119 aw_2 (by decide +kernel) ⟨Nat.le_of_ble_eq_true rfl, Nat.le_of_ble_eq_true rfl⟩ rfl (Nat.le_of_ble_eq_true rfl) ⟨Nat.le_of_ble_eq_true rfl, Nat.le_of_ble_eq_true rfl⟩ dX7_edges_10 ?_
    intro r9 M9 h
    exact j_iret X hr hlocks dX7_edges_13 h
theorem dX7_judge_56 : decode cX7_judge 56 = .ok (.iload 4, 2) := dk_21 (by decide +kernel)
theorem dX7_judge_58 : decode cX7_judge 58 = .ok (.iload_n 3, 1) := dk_29 (by decide +kernel)
theorem dX7_judge_59 : decode cX7_judge 59 = .ok (.if_icmp .ge 38, 3) := dk_162 (by decide +kernel)
theorem dX7_judge_97 : decode cX7_judge 97 = .ok (.aload_n 2, 1) := dk_44 (by decide +kernel)
theorem dX7_judge_98 : decode cX7_judge 98 = .ok (.getfield 232, 3) := dk_180 (by decide +kernel)
theorem dX7_judge_101 : decode cX7_judge 101 = .ok (.aload_n 0, 1) := dk_42 (by decide +kernel)
theorem dX7_judge_102 : decode cX7_judge 102 = .ok (.getfield 12, 3) := dk_180 (by decide +kernel)
theorem dX7_judge_105 : decode cX7_judge 105 = .ok (.getfield 72, 3) := dk_180 (by decide +kernel)
theorem dX7_judge_108 : decode cX7_judge 108 = .ok (.getfield 86, 3) := dk_180 (by decide +kernel)
theorem dX7_judge_111 : decode cX7_judge 111 = .ok (.if_icmp .ne 7, 3) := dk_160 (by decide +kernel)
theorem dX7_judge_118 : decode cX7_judge 118 = .ok (.iload_n 3, 1) := dk_29 (by decide +kernel)
theorem dX7_judge_119 : decode cX7_judge 119 = .ok (.ireturn, 1) := dk_172 (by decide +kernel)
theorem dX7_judge_114 : decode cX7_judge 114 = .ok (.iconst (-1), 1) := dk_2 (by decide +kernel)
theorem dX7_judge_115 : decode cX7_judge 115 = .ok (.goto 4, 3) := dk_167 (by decide +kernel)
theorem dX7_judge_62 : decode cX7_judge 62 = .ok (.aload_n 2, 1) := dk_44 (by decide +kernel)
theorem dX7_judge_63 : decode cX7_judge 63 = .ok (.getfield 284, 3) := dk_180 (by decide +kernel)
theorem dX7_judge_66 : decode cX7_judge 66 = .ok (.iload 4, 2) := dk_21 (by decide +kernel)
theorem dX7_judge_68 : decode cX7_judge 68 = .ok (.iaload, 1) := dk_46 (by decide +kernel)
theorem dX7_judge_69 : decode cX7_judge 69 = .ok (.aload_n 0, 1) := dk_42 (by decide +kernel)
theorem dX7_judge_70 : decode cX7_judge 70 = .ok (.getfield 12, 3) := dk_180 (by decide +kernel)
theorem dX7_judge_73 : decode cX7_judge 73 = .ok (.getfield 72, 3) := dk_180 (by decide +kernel)
theorem dX7_judge_76 : decode cX7_judge 76 = .ok (.getfield 91, 3) := dk_180 (by decide +kernel)
theorem dX7_judge_79 : decode cX7_judge 79 = .ok (.iload 4, 2) := dk_21 (by decide +kernel)
theorem dX7_judge_81 : decode cX7_judge 81 = .ok (.aaload, 1) := dk_50 (by decide +kernel)
theorem dX7_judge_82 : decode cX7_judge 82 = .ok (.getfield 114, 3) := dk_180 (by decide +kernel)
theorem dX7_judge_85 : decode cX7_judge 85 = .ok (.if_icmp .eq 6, 3) := dk_159 (by decide +kernel)
theorem dX7_judge_91 : decode cX7_judge 91 = .ok (.iinc 4 1, 3) := dk_132 (by decide +kernel)
theorem dX7_judge_94 : decode cX7_judge 94 = .ok (.goto (-38), 3) := dk_167 (by decide +kernel)
theorem dX7_judge_88 : decode cX7_judge 88 = .ok (.iload 4, 2) := dk_21 (by decide +kernel)
theorem dX7_judge_90 : decode cX7_judge 90 = .ok (.ireturn, 1) := dk_172 (by decide +kernel)
theorem dX7_judge_0 : decode cX7_judge 0 = .ok (.iload_n 1, 1) := dk_27 (by decide +kernel)
theorem dX7_judge_1 : decode cX7_judge 1 = .ok (.invokestatic 225, 3) := dk_184 (by decide +kernel)
theorem dX7_judge_4 : decode cX7_judge 4 = .ok (.ifCond .ne 10, 3) := dk_154 (by decide +kernel)
theorem dX7_judge_14 : decode cX7_judge 14 = .ok (.aload_n 0, 1) := dk_42 (by decide +kernel)
theorem dX7_judge_15 : decode cX7_judge 15 = .ok (.getfield 51, 3) := dk_180 (by decide +kernel)
theorem dX7_judge_18 : decode cX7_judge 18 = .ok (.iload_n 1, 1) := dk_27 (by decide +kernel)
theorem dX7_judge_19 : decode cX7_judge 19 = .ok (.aaload, 1) := dk_50 (by decide +kernel)
theorem dX7_judge_20 : decode cX7_judge 20 = .ok (.astore_n 2, 1) := dk_77 (by decide +kernel)
theorem dX7_judge_21 : decode cX7_judge 21 = .ok (.aload_n 2, 1) := dk_44 (by decide +kernel)
theorem dX7_judge_22 : decode cX7_judge 22 = .ok (.invokevirtual 228, 3) := dk_182 (by decide +kernel)
theorem dX7_judge_25 : decode cX7_judge 25 = .ok (.ifCond .eq 10, 3) := dk_153 (by decide +kernel)
theorem dX7_judge_35 : decode cX7_judge 35 = .ok (.aload_n 2, 1) := dk_44 (by decide +kernel)
theorem dX7_judge_36 : decode cX7_judge 36 = .ok (.getfield 232, 3) := dk_180 (by decide +kernel)
theorem dX7_judge_39 : decode cX7_judge 39 = .ok (.aload_n 0, 1) := dk_42 (by decide +kernel)
theorem dX7_judge_40 : decode cX7_judge 40 = .ok (.getfield 12, 3) := dk_180 (by decide +kernel)
theorem dX7_judge_43 : decode cX7_judge 43 = .ok (.getfield 72, 3) := dk_180 (by decide +kernel)
theorem dX7_judge_46 : decode cX7_judge 46 = .ok (.getfield 86, 3) := dk_180 (by decide +kernel)
theorem dX7_judge_49 : decode cX7_judge 49 = .ok (.invokestatic 293, 3) := dk_184 (by decide +kernel)
theorem dX7_judge_52 : decode cX7_judge 52 = .ok (.istore_n 3, 1) := dk_62 (by decide +kernel)
theorem dX7_judge_53 : decode cX7_judge 53 = .ok (.iconst 0, 1) := dk_3 (by decide +kernel)
theorem dX7_judge_54 : decode cX7_judge 54 = .ok (.istore 4, 2) := dk_54 (by decide +kernel)
theorem dX7_judge_28 : decode cX7_judge 28 = .ok (.aload_n 0, 1) := dk_42 (by decide +kernel)
theorem dX7_judge_29 : decode cX7_judge 29 = .ok (.ldc 197, 2) := dk_18 (by decide +kernel)
theorem dX7_judge_31 : decode cX7_judge 31 = .ok (.invokevirtual 69, 3) := dk_182 (by decide +kernel)
theorem dX7_judge_34 : decode cX7_judge 34 = .ok (.ireturn, 1) := dk_172 (by decide +kernel)
theorem dX7_judge_7 : decode cX7_judge 7 = .ok (.aload_n 0, 1) := dk_42 (by decide +kernel)
theorem dX7_judge_8 : decode cX7_judge 8 = .ok (.ldc 68, 2) := dk_18 (by decide +kernel)
theorem dX7_judge_10 : decode cX7_judge 10 = .ok (.invokevirtual 69, 3) := dk_182 (by decide +kernel)
theorem dX7_judge_13 : decode cX7_judge 13 = .ok (.ireturn, 1) := dk_172 (by decide +kernel)
set_option maxRecDepth 100000 in
set_option maxHeartbeats 8000000 in
theorem x_X7_judge (l : Launch) (D : va_G) (y : wY) (ad : Nat → Nat) (i1 : Int32) (M : Mem) (K : Int32 → Mem → Prop) (h : wp_X7_judge i1 M K) : MI l D y ad yX7_judge (Cond.code yX7_judge cX7_judge 5 (some .int)) 2 M [.ref (ad 0), .int i1] K := by
  refine MI_of (by decide) (Nat.le_of_ble_eq_true rfl) ?_
  intro p e s m args below meth c X hr hlocks
  have hL56 : ∀ (x2 : Nat) (i3 : Int32) (hx2 : Cl x2 3) (n : Nat) (i4 : Int32) (Mb : Mem), wp_X7_judge_L56 K x2 i3 n i4 Mb → J p l e (rmN 2) s m args below meth c 0 0 (QI K D y ad M s args below) D y ad (va_A (PL y ad M) s.heap.size) 5 Mb 56 [(0, .ref (ad 0)), (2, .ref (ad x2)), (3, .int i3), (4, .int i4)] [] := by
    intro x2 i3 hx2 n
    induction n with
    | zero => intro i4 Mb h; exact False.elim h
    | succ n hB56 =>
      intro i4 Mb h
      replace h : wp_X7_judge_l56 K x2 i3 (wp_X7_judge_L56 K x2 i3 n) i4 Mb := h
      delta wp_X7_judge_l56 at h
      refine j_iload X 3 rfl dX7_judge_56 ?_
      refine j_iload_n X 2 rfl rfl dX7_judge_58 ?_
      refine j_icmp_ge X 97 (by decide) dX7_judge_59 (fun q_5601 => ?_) (fun q_5601 => ?_)
      · replace h := h.1 q_5601
        refine j_aload_n X 1 rfl rfl dX7_judge_97 ?_
        refine j_getN X hx2.1 (wE_3 _ hx2.2) rfl awF3 2 (by decide) (List.mem_of_getElem? (i := 36) rfl) rfl (v := .int (Mb x2 2)) rfl dX7_judge_98 ?_
        refine j_aload_n X 0 rfl rfl dX7_judge_101 ?_
        refine j_get X cl_0.1 (wE_7 _ cl_0.2) rfl awF7 0 (by decide) aw_16 rfl (v := .ref (ad 1)) rfl dX7_judge_102 ?_
        refine j_getN X cl_1.1 (wE_6 _ cl_1.2) rfl awF6 2 (by decide) (List.mem_of_getElem? (i := 23) rfl) rfl (v := .ref (ad 12)) rfl dX7_judge_105 ?_
        refine j_getN X cl_12.1 (wE_0 _ cl_12.2) rfl awF0 3 (by decide) (List.mem_of_getElem? (i := 15) rfl) rfl (v := .int (Mb 12 3)) rfl dX7_judge_108 ?_
        refine j_icmp_ne X 118 (by decide) dX7_judge_111 (fun q_5602 => ?_) (fun q_5602 => ?_)
        · replace h := h.1 q_5602
          refine j_iload_n X 2 rfl rfl dX7_judge_118 ?_
          exact j_iret X hr hlocks dX7_judge_119 h
        · replace h := h.2 q_5602
          refine j_iconst X (v := (-1)) (by decide) dX7_judge_114 ?_
          refine j_goto X 119 (by decide) dX7_judge_115 ?_
          exact j_iret X hr hlocks dX7_judge_119 h
      · replace h := h.2 q_5601
        refine j_aload_n X 1 rfl rfl dX7_judge_62 ?_
        refine j_getN X hx2.1 (wE_3 _ hx2.2) rfl awF3 0 (by decide) (List.mem_of_getElem? (i := 33) rfl) rfl (v := .ref (ad (rf x2 0))) rfl dX7_judge_63 ?_
        have hk_5603 := kf_3_0 hx2
        refine j_iload X 3 rfl dX7_judge_66 ?_
        obtain ⟨hi_5604, h⟩ := h
        refine j_iald X hk_5603.1 hk_5603.2 hi_5604 dX7_judge_68 ?_
        refine j_aload_n X 0 rfl rfl dX7_judge_69 ?_
        refine j_get X cl_0.1 (wE_7 _ cl_0.2) rfl awF7 0 (by decide) aw_16 rfl (v := .ref (ad 1)) rfl dX7_judge_70 ?_
        refine j_getN X cl_1.1 (wE_6 _ cl_1.2) rfl awF6 2 (by decide) (List.mem_of_getElem? (i := 23) rfl) rfl (v := .ref (ad 12)) rfl dX7_judge_73 ?_
        refine j_getN X cl_12.1 (wE_0 _ cl_12.2) rfl awF0 2 (by decide) (List.mem_of_getElem? (i := 14) rfl) rfl (v := .ref (ad 13)) rfl dX7_judge_76 ?_
        refine j_iload X 3 rfl dX7_judge_79 ?_
        obtain ⟨hi_5605, h⟩ := h
        refine j_aald10 X cl_13.1 cl_13.2 hi_5605 dX7_judge_81 ?_
        refine j_eqr (v := (14 + i4.toNatClampNeg)) (re_13 hi_5605) ?_
        have hk_5606 := rc_13 hi_5605
        refine j_getN X hk_5606.1 (wE_1 _ hk_5606.2) rfl awF1 5 (by decide) (List.mem_of_getElem? (i := 10) rfl) rfl (v := .int (Mb (14 + i4.toNatClampNeg) 5)) rfl dX7_judge_82 ?_
        refine j_icmp_eq X 91 (by decide) dX7_judge_85 (fun q_5607 => ?_) (fun q_5607 => ?_)
        · replace h := h.1 q_5607
          refine j_iinc X (v := (i4 + 1)) 3 [(4, .int (i4 + 1)), (0, .ref (ad 0)), (2, .ref (ad x2)), (3, .int i3)] rfl rfl (by decide) rfl dX7_judge_91 ?_
          refine j_goto X 56 (by decide) dX7_judge_94 ?_
          refine j_lv (lv1 := [(0, .ref (ad 0)), (2, .ref (ad x2)), (3, .int i3), (4, .int (i4 + 1))]) [1, 2, 3, 0] rfl ?_
          exact hB56 _ _ h
        · replace h := h.2 q_5607
          refine j_iload X 3 rfl dX7_judge_88 ?_
          exact j_iret X hr hlocks dX7_judge_90 h
  delta wp_X7_judge at h
  refine j_lv (lv1 := [(0, .ref (ad 0)), (1, .int i1)]) [0, 1] rfl ?_
  refine j_iload_n X 1 rfl rfl dX7_judge_0 ?_
  refine j_callSI X (nn := 1) (As := [.int i1]) (st := []) aw_639 (x_X7_isSheet l D y ad i1 _ _ h) aw_638 aw_640 aw_2 (by decide +kernel) ⟨Nat.le_of_ble_eq_true rfl, Nat.le_of_ble_eq_true rfl⟩ rfl (Nat.le_of_ble_eq_true rfl) ⟨Nat.le_of_ble_eq_true rfl, Nat.le_of_ble_eq_true rfl⟩ dX7_judge_1 ?_
  intro r1 M1 h
  refine j_if_ne X 14 (by decide) dX7_judge_4 (fun q_2 => ?_) (fun q_2 => ?_)
  · replace h := h.1 q_2
    refine j_aload_n X 0 rfl rfl dX7_judge_14 ?_
    refine j_get X cl_0.1 (wE_7 _ cl_0.2) rfl awF7 5 (by decide) aw_31 rfl (v := .ref (ad 69)) rfl dX7_judge_15 ?_
    refine j_iload_n X 1 rfl rfl dX7_judge_18 ?_
    obtain ⟨hi_3, h⟩ := h
    refine j_aald11 X cl_69.1 cl_69.2 hi_3 dX7_judge_19 ?_
    refine j_eqr (v := (70 + 2 * i1.toNatClampNeg)) (re_69 hi_3) ?_
    have hk_4 := rc_69 hi_3
    refine j_astore_n X [(2, .ref (ad (70 + 2 * i1.toNatClampNeg))), (0, .ref (ad 0)), (1, .int i1)] rfl (by decide) rfl dX7_judge_20 ?_
    refine j_aload_n X 0 rfl rfl dX7_judge_21 ?_
    refine j_callVNI X (nn := 0) (As := []) (st := []) (ci := 3) hk_4.1 (wE_3 _ hk_4.2) rfl aw_641 aw_642 (x_X3_isMissing l D y ad (70 + 2 * i1.toNatClampNeg) hk_4 _ _ h) (List.mem_of_getElem? (i := 38) rfl) aw_643 aw_35 (by decide +kernel) ⟨Nat.le_of_ble_eq_true rfl, Nat.le_of_ble_eq_true rfl⟩ rfl (Nat.le_of_ble_eq_true rfl) ⟨Nat.le_of_ble_eq_true rfl, Nat.le_of_ble_eq_true rfl⟩ dX7_judge_22 ?_
    intro r5 M5 h
    refine j_if_eq X 35 (by decide) dX7_judge_25 (fun q_6 => ?_) (fun q_6 => ?_)
    · replace h := h.1 q_6
      refine j_aload_n X 0 rfl rfl dX7_judge_35 ?_
      refine j_getN X hk_4.1 (wE_3 _ hk_4.2) rfl awF3 2 (by decide) (List.mem_of_getElem? (i := 36) rfl) rfl (v := .int (M5 (70 + 2 * i1.toNatClampNeg) 2)) rfl dX7_judge_36 ?_
      refine j_aload_n X 1 rfl rfl dX7_judge_39 ?_
      refine j_get X cl_0.1 (wE_7 _ cl_0.2) rfl awF7 0 (by decide) aw_16 rfl (v := .ref (ad 1)) rfl dX7_judge_40 ?_
      refine j_getN X cl_1.1 (wE_6 _ cl_1.2) rfl awF6 2 (by decide) (List.mem_of_getElem? (i := 23) rfl) rfl (v := .ref (ad 12)) rfl dX7_judge_43 ?_
      refine j_getN X cl_12.1 (wE_0 _ cl_12.2) rfl awF0 3 (by decide) (List.mem_of_getElem? (i := 15) rfl) rfl (v := .int (M5 12 3)) rfl dX7_judge_46 ?_
      refine j_mmin X aw_850 aw_202 aw_203 aw_204 (Nat.le_of_ble_eq_true rfl) (Nat.le_of_ble_eq_true rfl) (by decide) (by decide) dX7_judge_49 ?_
      refine j_topi (fun g_7 eg_7 => ?_)
      replace h := h g_7 eg_7
      refine j_istore_n X [(3, .int g_7), (2, .ref (ad (70 + 2 * i1.toNatClampNeg))), (0, .ref (ad 0)), (1, .int i1)] rfl (by decide) rfl dX7_judge_52 ?_
      refine j_iconst X (v := 0) (by decide) dX7_judge_53 ?_
      refine j_istore X [(4, .int 0), (3, .int g_7), (2, .ref (ad (70 + 2 * i1.toNatClampNeg))), (0, .ref (ad 0)), (1, .int i1)] (by decide) rfl dX7_judge_54 ?_
      refine j_lv (lv1 := [(0, .ref (ad 0)), (2, .ref (ad (70 + 2 * i1.toNatClampNeg))), (3, .int g_7), (4, .int 0)]) [3, 2, 1, 0] rfl ?_
      obtain ⟨n56, h⟩ := h
      exact hL56 _ _ hk_4  n56 _ _ h
    · replace h := h.2 q_6
      refine j_aload_n X 1 rfl rfl dX7_judge_28 ?_
      refine j_ldc X (v := (-1000000002)) aw_560 dX7_judge_29 ?_
      refine j_callVI X (nn := 1) (As := [.int (-1000000002)]) (st := []) (ci := 7) cl_0.1 (wE_7 _ cl_0.2) rfl aw_117 aw_118 (x_X7_refuse l D y ad (-1000000002) _ _ h) aw_116 aw_119 aw_2 (by decide +kernel) ⟨Nat.le_of_ble_eq_true rfl, Nat.le_of_ble_eq_true rfl⟩ rfl (Nat.le_of_ble_eq_true rfl) ⟨Nat.le_of_ble_eq_true rfl, Nat.le_of_ble_eq_true rfl⟩ dX7_judge_31 ?_
      intro r8 M8 h
      exact j_iret X hr hlocks dX7_judge_34 h
  · replace h := h.2 q_2
    refine j_aload_n X 0 rfl rfl dX7_judge_7 ?_
    refine j_ldc X (v := (-1000000001)) aw_108 dX7_judge_8 ?_
    refine j_callVI X (nn := 1) (As := [.int (-1000000001)]) (st := []) (ci := 7) cl_0.1 (wE_7 _ cl_0.2) rfl aw_117 aw_118 (x_X7_refuse l D y ad (-1000000001) _ _ h) aw_116 aw_119 aw_2 (by decide +kernel) ⟨Nat.le_of_ble_eq_true rfl, Nat.le_of_ble_eq_true rfl⟩ rfl (Nat.le_of_ble_eq_true rfl) ⟨Nat.le_of_ble_eq_true rfl, Nat.le_of_ble_eq_true rfl⟩ dX7_judge_10 ?_
    intro r9 M9 h
    exact j_iret X hr hlocks dX7_judge_13 h
theorem dX7_image_0 : decode cX7_image 0 = .ok (.aload_n 0, 1) := dk_42 (by decide +kernel)
theorem dX7_image_1 : decode cX7_image 1 = .ok (.getfield 16, 3) := dk_180 (by decide +kernel)
theorem dX7_image_4 : decode cX7_image 4 = .ok (.aload_n 0, 1) := dk_42 (by decide +kernel)
theorem dX7_image_5 : decode cX7_image 5 = .ok (.getfield 12, 3) := dk_180 (by decide +kernel)
theorem dX7_image_8 : decode cX7_image 8 = .ok (.invokevirtual 298, 3) := dk_182 (by decide +kernel)
theorem dX7_image_11 : decode cX7_image 11 = .ok (.aload_n 0, 1) := dk_42 (by decide +kernel)
theorem dX7_image_12 : decode cX7_image 12 = .ok (.dup, 1) := dk_89 (by decide +kernel)
theorem dX7_image_13 : decode cX7_image 13 = .ok (.getfield 301, 3) := dk_180 (by decide +kernel)
theorem dX7_image_16 : decode cX7_image 16 = .ok (.iconst 1, 1) := dk_4 (by decide +kernel)
theorem dX7_image_17 : decode cX7_image 17 = .ok (.iadd, 1) := dk_96 (by decide +kernel)
theorem dX7_image_18 : decode cX7_image 18 = .ok (.putfield 301, 3) := dk_181 (by decide +kernel)
theorem dX7_image_21 : decode cX7_image 21 = .ok (.aload_n 0, 1) := dk_42 (by decide +kernel)
theorem dX7_image_22 : decode cX7_image 22 = .ok (.getfield 301, 3) := dk_180 (by decide +kernel)
theorem dX7_image_25 : decode cX7_image 25 = .ok (.ireturn, 1) := dk_172 (by decide +kernel)
set_option maxRecDepth 100000 in
set_option maxHeartbeats 8000000 in
theorem x_X7_image (l : Launch) (D : va_G) (y : wY) (ad : Nat → Nat) (M : Mem) (K : Int32 → Mem → Prop) (h : wp_X7_image M K) : MI l D y ad yX7_image (Cond.code yX7_image cX7_image 1 (some .int)) 3 M [.ref (ad 0)] K := by
  refine MI_of (by decide) (Nat.le_of_ble_eq_true rfl) ?_
  intro p e s m args below meth c X hr hlocks
  delta wp_X7_image at h
  refine j_lv (lv1 := [(0, .ref (ad 0))]) [0] rfl ?_
  refine j_aload_n X 0 rfl rfl dX7_image_0 ?_
  refine j_get X cl_0.1 (wE_7 _ cl_0.2) rfl awF7 1 (by decide) aw_17 rfl (v := .ref (ad 25)) rfl dX7_image_1 ?_
  refine j_aload_n X 0 rfl rfl dX7_image_4 ?_
  refine j_get X cl_0.1 (wE_7 _ cl_0.2) rfl awF7 0 (by decide) aw_16 rfl (v := .ref (ad 1)) rfl dX7_image_5 ?_
  refine j_callVNV X (nn := 1) (As := [.ref (ad 1)]) (st := []) (ci := 6) cl_25.1 (wE_6 _ cl_25.2) rfl aw_868 aw_869 (x_X6_copyFrom l D y ad 25 1 cl_25 cl_1 _ _ h) (List.mem_of_getElem? (i := 48) rfl) aw_870 aw_15 (by decide +kernel) ⟨Nat.le_of_ble_eq_true rfl, Nat.le_of_ble_eq_true rfl⟩ rfl (Nat.le_of_ble_eq_true rfl) ⟨Nat.le_of_ble_eq_true rfl, Nat.le_of_ble_eq_true rfl⟩ dX7_image_8 ?_
  intro M1 h
  refine j_aload_n X 0 rfl rfl dX7_image_11 ?_
  refine j_dup X rfl dX7_image_12 ?_
  refine j_get X cl_0.1 (wE_7 _ cl_0.2) rfl awF7 7 (by decide) aw_867 rfl (v := .int (M1 0 7)) rfl dX7_image_13 ?_
  refine j_iconst X (v := 1) (by decide) dX7_image_16 ?_
  refine j_iadd X dX7_image_17 ?_
  refine j_put X (up M1 0 7 ((M1 0 7) + 1)) up_o cl_0.1 (wE_7 _ cl_0.2) rfl awF7 7 (by decide) (wP_7_7 _ _ cl_0.2) tyX7 tyX7_ok nmX7 rfl (ty := .int) (by decide +kernel) rfl rfl (Nat.le_of_ble_eq_true rfl) aw_867 rfl dX7_image_18 ?_
  refine j_aload_n X 0 rfl rfl dX7_image_21 ?_
  refine j_get X cl_0.1 (wE_7 _ cl_0.2) rfl awF7 7 (by decide) aw_867 rfl (v := .int ((up M1 0 7 ((M1 0 7) + 1)) 0 7)) rfl dX7_image_22 ?_
  exact j_iret X hr hlocks dX7_image_25 h
theorem dX7_restore_0 : decode cX7_restore 0 = .ok (.aload_n 0, 1) := dk_42 (by decide +kernel)
theorem dX7_restore_1 : decode cX7_restore 1 = .ok (.getfield 301, 3) := dk_180 (by decide +kernel)
theorem dX7_restore_4 : decode cX7_restore 4 = .ok (.ifCond .ne 10, 3) := dk_154 (by decide +kernel)
theorem dX7_restore_14 : decode cX7_restore 14 = .ok (.aload_n 0, 1) := dk_42 (by decide +kernel)
theorem dX7_restore_15 : decode cX7_restore 15 = .ok (.getfield 12, 3) := dk_180 (by decide +kernel)
theorem dX7_restore_18 : decode cX7_restore 18 = .ok (.aload_n 0, 1) := dk_42 (by decide +kernel)
theorem dX7_restore_19 : decode cX7_restore 19 = .ok (.getfield 16, 3) := dk_180 (by decide +kernel)
theorem dX7_restore_22 : decode cX7_restore 22 = .ok (.invokevirtual 298, 3) := dk_182 (by decide +kernel)
theorem dX7_restore_25 : decode cX7_restore 25 = .ok (.aload_n 0, 1) := dk_42 (by decide +kernel)
theorem dX7_restore_26 : decode cX7_restore 26 = .ok (.getfield 12, 3) := dk_180 (by decide +kernel)
theorem dX7_restore_29 : decode cX7_restore 29 = .ok (.getfield 72, 3) := dk_180 (by decide +kernel)
theorem dX7_restore_32 : decode cX7_restore 32 = .ok (.getfield 174, 3) := dk_180 (by decide +kernel)
theorem dX7_restore_35 : decode cX7_restore 35 = .ok (.ireturn, 1) := dk_172 (by decide +kernel)
theorem dX7_restore_7 : decode cX7_restore 7 = .ok (.aload_n 0, 1) := dk_42 (by decide +kernel)
theorem dX7_restore_8 : decode cX7_restore 8 = .ok (.ldc 197, 2) := dk_18 (by decide +kernel)
theorem dX7_restore_10 : decode cX7_restore 10 = .ok (.invokevirtual 69, 3) := dk_182 (by decide +kernel)
theorem dX7_restore_13 : decode cX7_restore 13 = .ok (.ireturn, 1) := dk_172 (by decide +kernel)
set_option maxRecDepth 100000 in
set_option maxHeartbeats 8000000 in
theorem x_X7_restore (l : Launch) (D : va_G) (y : wY) (ad : Nat → Nat) (M : Mem) (K : Int32 → Mem → Prop) (h : wp_X7_restore M K) : MI l D y ad yX7_restore (Cond.code yX7_restore cX7_restore 1 (some .int)) 3 M [.ref (ad 0)] K := by
  refine MI_of (by decide) (Nat.le_of_ble_eq_true rfl) ?_
  intro p e s m args below meth c X hr hlocks
  delta wp_X7_restore at h
  refine j_lv (lv1 := [(0, .ref (ad 0))]) [0] rfl ?_
  refine j_aload_n X 0 rfl rfl dX7_restore_0 ?_
  refine j_get X cl_0.1 (wE_7 _ cl_0.2) rfl awF7 7 (by decide) aw_867 rfl (v := .int (M 0 7)) rfl dX7_restore_1 ?_
  refine j_if_ne X 14 (by decide) dX7_restore_4 (fun q_1 => ?_) (fun q_1 => ?_)
  · replace h := h.1 q_1
    refine j_aload_n X 0 rfl rfl dX7_restore_14 ?_
    refine j_get X cl_0.1 (wE_7 _ cl_0.2) rfl awF7 0 (by decide) aw_16 rfl (v := .ref (ad 1)) rfl dX7_restore_15 ?_
    refine j_aload_n X 0 rfl rfl dX7_restore_18 ?_
    refine j_get X cl_0.1 (wE_7 _ cl_0.2) rfl awF7 1 (by decide) aw_17 rfl (v := .ref (ad 25)) rfl dX7_restore_19 ?_
    refine j_callVNV X (nn := 1) (As := [.ref (ad 25)]) (st := []) (ci := 6) cl_1.1 (wE_6 _ cl_1.2) rfl aw_868 aw_869 (x_X6_copyFrom l D y ad 1 25 cl_1 cl_25 _ _ h) (List.mem_of_getElem? (i := 48) rfl) aw_870 aw_15 (by decide +kernel) ⟨Nat.le_of_ble_eq_true rfl, Nat.le_of_ble_eq_true rfl⟩ rfl (Nat.le_of_ble_eq_true rfl) ⟨Nat.le_of_ble_eq_true rfl, Nat.le_of_ble_eq_true rfl⟩ dX7_restore_22 ?_
    intro M2 h
    refine j_aload_n X 0 rfl rfl dX7_restore_25 ?_
    refine j_get X cl_0.1 (wE_7 _ cl_0.2) rfl awF7 0 (by decide) aw_16 rfl (v := .ref (ad 1)) rfl dX7_restore_26 ?_
    refine j_getN X cl_1.1 (wE_6 _ cl_1.2) rfl awF6 2 (by decide) (List.mem_of_getElem? (i := 23) rfl) rfl (v := .ref (ad 12)) rfl dX7_restore_29 ?_
    refine j_getN X cl_12.1 (wE_0 _ cl_12.2) rfl awF0 6 (by decide) (List.mem_of_getElem? (i := 18) rfl) rfl (v := .int (M2 12 6)) rfl dX7_restore_32 ?_
    exact j_iret X hr hlocks dX7_restore_35 h
  · replace h := h.2 q_1
    refine j_aload_n X 0 rfl rfl dX7_restore_7 ?_
    refine j_ldc X (v := (-1000000002)) aw_560 dX7_restore_8 ?_
    refine j_callVI X (nn := 1) (As := [.int (-1000000002)]) (st := []) (ci := 7) cl_0.1 (wE_7 _ cl_0.2) rfl aw_117 aw_118 (x_X7_refuse l D y ad (-1000000002) _ _ h) aw_116 aw_119 aw_2 (by decide +kernel) ⟨Nat.le_of_ble_eq_true rfl, Nat.le_of_ble_eq_true rfl⟩ rfl (Nat.le_of_ble_eq_true rfl) ⟨Nat.le_of_ble_eq_true rfl, Nat.le_of_ble_eq_true rfl⟩ dX7_restore_10 ?_
    intro r3 M3 h
    exact j_iret X hr hlocks dX7_restore_13 h
theorem dX7_tell_0 : decode cX7_tell 0 = .ok (.aload_n 0, 1) := dk_42 (by decide +kernel)
theorem dX7_tell_1 : decode cX7_tell 1 = .ok (.getfield 12, 3) := dk_180 (by decide +kernel)
theorem dX7_tell_4 : decode cX7_tell 4 = .ok (.getfield 304, 3) := dk_180 (by decide +kernel)
theorem dX7_tell_7 : decode cX7_tell 7 = .ok (.bipush 20, 2) := dk_16 (by decide +kernel)
theorem dX7_tell_9 : decode cX7_tell 9 = .ok (.if_icmp .lt 10, 3) := dk_161 (by decide +kernel)
theorem dX7_tell_19 : decode cX7_tell 19 = .ok (.aload_n 0, 1) := dk_42 (by decide +kernel)
theorem dX7_tell_20 : decode cX7_tell 20 = .ok (.getfield 12, 3) := dk_180 (by decide +kernel)
theorem dX7_tell_23 : decode cX7_tell 23 = .ok (.getfield 307, 3) := dk_180 (by decide +kernel)
theorem dX7_tell_26 : decode cX7_tell 26 = .ok (.aload_n 0, 1) := dk_42 (by decide +kernel)
theorem dX7_tell_27 : decode cX7_tell 27 = .ok (.getfield 12, 3) := dk_180 (by decide +kernel)
theorem dX7_tell_30 : decode cX7_tell 30 = .ok (.getfield 304, 3) := dk_180 (by decide +kernel)
theorem dX7_tell_33 : decode cX7_tell 33 = .ok (.iload_n 1, 1) := dk_27 (by decide +kernel)
theorem dX7_tell_34 : decode cX7_tell 34 = .ok (.iastore, 1) := dk_79 (by decide +kernel)
theorem dX7_tell_35 : decode cX7_tell 35 = .ok (.aload_n 0, 1) := dk_42 (by decide +kernel)
theorem dX7_tell_36 : decode cX7_tell 36 = .ok (.getfield 12, 3) := dk_180 (by decide +kernel)
theorem dX7_tell_39 : decode cX7_tell 39 = .ok (.dup, 1) := dk_89 (by decide +kernel)
theorem dX7_tell_40 : decode cX7_tell 40 = .ok (.getfield 304, 3) := dk_180 (by decide +kernel)
theorem dX7_tell_43 : decode cX7_tell 43 = .ok (.iconst 1, 1) := dk_4 (by decide +kernel)
theorem dX7_tell_44 : decode cX7_tell 44 = .ok (.iadd, 1) := dk_96 (by decide +kernel)
theorem dX7_tell_45 : decode cX7_tell 45 = .ok (.putfield 304, 3) := dk_181 (by decide +kernel)
theorem dX7_tell_48 : decode cX7_tell 48 = .ok (.aload_n 0, 1) := dk_42 (by decide +kernel)
theorem dX7_tell_49 : decode cX7_tell 49 = .ok (.getfield 12, 3) := dk_180 (by decide +kernel)
theorem dX7_tell_52 : decode cX7_tell 52 = .ok (.getfield 304, 3) := dk_180 (by decide +kernel)
theorem dX7_tell_55 : decode cX7_tell 55 = .ok (.ireturn, 1) := dk_172 (by decide +kernel)
theorem dX7_tell_12 : decode cX7_tell 12 = .ok (.aload_n 0, 1) := dk_42 (by decide +kernel)
theorem dX7_tell_13 : decode cX7_tell 13 = .ok (.ldc 90, 2) := dk_18 (by decide +kernel)
theorem dX7_tell_15 : decode cX7_tell 15 = .ok (.invokevirtual 69, 3) := dk_182 (by decide +kernel)
theorem dX7_tell_18 : decode cX7_tell 18 = .ok (.ireturn, 1) := dk_172 (by decide +kernel)
set_option maxRecDepth 100000 in
set_option maxHeartbeats 8000000 in
theorem x_X7_tell (l : Launch) (D : va_G) (y : wY) (ad : Nat → Nat) (i1 : Int32) (M : Mem) (K : Int32 → Mem → Prop) (h : wp_X7_tell i1 M K) : MI l D y ad yX7_tell (Cond.code yX7_tell cX7_tell 2 (some .int)) 1 M [.ref (ad 0), .int i1] K := by
  refine MI_of (by decide) (Nat.le_of_ble_eq_true rfl) ?_
  intro p e s m args below meth c X hr hlocks
  delta wp_X7_tell at h
  refine j_lv (lv1 := [(0, .ref (ad 0)), (1, .int i1)]) [0, 1] rfl ?_
  refine j_aload_n X 0 rfl rfl dX7_tell_0 ?_
  refine j_get X cl_0.1 (wE_7 _ cl_0.2) rfl awF7 0 (by decide) aw_16 rfl (v := .ref (ad 1)) rfl dX7_tell_1 ?_
  refine j_getN X cl_1.1 (wE_6 _ cl_1.2) rfl awF6 6 (by decide) (List.mem_of_getElem? (i := 27) rfl) rfl (v := .int (M 1 6)) rfl dX7_tell_4 ?_
  refine j_bipush X (v := 20) (by decide) dX7_tell_7 ?_
  refine j_icmp_lt X 19 (by decide) dX7_tell_9 (fun q_1 => ?_) (fun q_1 => ?_)
  · replace h := h.1 q_1
    refine j_aload_n X 0 rfl rfl dX7_tell_19 ?_
    refine j_get X cl_0.1 (wE_7 _ cl_0.2) rfl awF7 0 (by decide) aw_16 rfl (v := .ref (ad 1)) rfl dX7_tell_20 ?_
    refine j_getN X cl_1.1 (wE_6 _ cl_1.2) rfl awF6 4 (by decide) (List.mem_of_getElem? (i := 25) rfl) rfl (v := .ref (ad 24)) rfl dX7_tell_23 ?_
    refine j_aload_n X 0 rfl rfl dX7_tell_26 ?_
    refine j_get X cl_0.1 (wE_7 _ cl_0.2) rfl awF7 0 (by decide) aw_16 rfl (v := .ref (ad 1)) rfl dX7_tell_27 ?_
    refine j_getN X cl_1.1 (wE_6 _ cl_1.2) rfl awF6 6 (by decide) (List.mem_of_getElem? (i := 27) rfl) rfl (v := .int (M 1 6)) rfl dX7_tell_30 ?_
    refine j_iload_n X 1 rfl rfl dX7_tell_33 ?_
    obtain ⟨hi_2, h⟩ := h
    refine j_iast X cl_24.1 cl_24.2 hi_2 dX7_tell_34 ?_
    refine j_aload_n X 0 rfl rfl dX7_tell_35 ?_
    refine j_get X cl_0.1 (wE_7 _ cl_0.2) rfl awF7 0 (by decide) aw_16 rfl (v := .ref (ad 1)) rfl dX7_tell_36 ?_
    refine j_dup X rfl dX7_tell_39 ?_
    refine j_getN X cl_1.1 (wE_6 _ cl_1.2) rfl awF6 6 (by decide) (List.mem_of_getElem? (i := 27) rfl) rfl (v := .int ((up M 24 (M 1 6).toNatClampNeg i1) 1 6)) rfl dX7_tell_40 ?_
    refine j_iconst X (v := 1) (by decide) dX7_tell_43 ?_
    refine j_iadd X dX7_tell_44 ?_
    refine j_putN X (up (up M 24 (M 1 6).toNatClampNeg i1) 1 6 (((up M 24 (M 1 6).toNatClampNeg i1) 1 6) + 1)) up_o cl_1.1 (wE_6 _ cl_1.2) rfl awF6 6 (by decide) (wP_6_6 _ _ cl_1.2) tyX6 tyX6_ok nmX6 rfl (ty := .int) (by decide +kernel) rfl rfl (Nat.le_of_ble_eq_true rfl) (List.mem_of_getElem? (i := 27) rfl) rfl dX7_tell_45 ?_
    refine j_aload_n X 0 rfl rfl dX7_tell_48 ?_
    refine j_get X cl_0.1 (wE_7 _ cl_0.2) rfl awF7 0 (by decide) aw_16 rfl (v := .ref (ad 1)) rfl dX7_tell_49 ?_
    refine j_getN X cl_1.1 (wE_6 _ cl_1.2) rfl awF6 6 (by decide) (List.mem_of_getElem? (i := 27) rfl) rfl (v := .int ((up (up M 24 (M 1 6).toNatClampNeg i1) 1 6 (((up M 24 (M 1 6).toNatClampNeg i1) 1 6) + 1)) 1 6)) rfl dX7_tell_52 ?_
    exact j_iret X hr hlocks dX7_tell_55 h
  · replace h := h.2 q_1
    refine j_aload_n X 0 rfl rfl dX7_tell_12 ?_
    refine j_ldc X (v := (-1000000004)) aw_168 dX7_tell_13 ?_
    refine j_callVI X (nn := 1) (As := [.int (-1000000004)]) (st := []) (ci := 7) cl_0.1 (wE_7 _ cl_0.2) rfl aw_117 aw_118 (x_X7_refuse l D y ad (-1000000004) _ _ h) aw_116 aw_119 aw_2 (by decide +kernel) ⟨Nat.le_of_ble_eq_true rfl, Nat.le_of_ble_eq_true rfl⟩ rfl (Nat.le_of_ble_eq_true rfl) ⟨Nat.le_of_ble_eq_true rfl, Nat.le_of_ble_eq_true rfl⟩ dX7_tell_15 ?_
    intro r3 M3 h
    exact j_iret X hr hlocks dX7_tell_18 h
theorem dX7_check_22 : decode cX7_check 22 = .ok (.iload_n 2, 1) := dk_28 (by decide +kernel)
theorem dX7_check_23 : decode cX7_check 23 = .ok (.iload_n 1, 1) := dk_27 (by decide +kernel)
theorem dX7_check_24 : decode cX7_check 24 = .ok (.if_icmp .ge 40, 3) := dk_162 (by decide +kernel)
theorem dX7_check_64 : decode cX7_check 64 = .ok (.iconst 0, 1) := dk_3 (by decide +kernel)
theorem dX7_check_65 : decode cX7_check 65 = .ok (.ireturn, 1) := dk_172 (by decide +kernel)
theorem dX7_check_27 : decode cX7_check 27 = .ok (.aload_n 0, 1) := dk_42 (by decide +kernel)
theorem dX7_check_28 : decode cX7_check 28 = .ok (.getfield 31, 3) := dk_180 (by decide +kernel)
theorem dX7_check_31 : decode cX7_check 31 = .ok (.iconst 0, 1) := dk_3 (by decide +kernel)
theorem dX7_check_32 : decode cX7_check 32 = .ok (.invokevirtual 178, 3) := dk_182 (by decide +kernel)
theorem dX7_check_35 : decode cX7_check 35 = .ok (.aload_n 0, 1) := dk_42 (by decide +kernel)
theorem dX7_check_36 : decode cX7_check 36 = .ok (.getfield 12, 3) := dk_180 (by decide +kernel)
theorem dX7_check_39 : decode cX7_check 39 = .ok (.getfield 307, 3) := dk_180 (by decide +kernel)
theorem dX7_check_42 : decode cX7_check 42 = .ok (.iload_n 2, 1) := dk_28 (by decide +kernel)
theorem dX7_check_43 : decode cX7_check 43 = .ok (.iaload, 1) := dk_46 (by decide +kernel)
theorem dX7_check_44 : decode cX7_check 44 = .ok (.aload_n 0, 1) := dk_42 (by decide +kernel)
theorem dX7_check_45 : decode cX7_check 45 = .ok (.getfield 31, 3) := dk_180 (by decide +kernel)
theorem dX7_check_48 : decode cX7_check 48 = .ok (.invokevirtual 182, 3) := dk_182 (by decide +kernel)
theorem dX7_check_51 : decode cX7_check 51 = .ok (.if_icmp .eq 7, 3) := dk_159 (by decide +kernel)
theorem dX7_check_58 : decode cX7_check 58 = .ok (.iinc 2 1, 3) := dk_132 (by decide +kernel)
theorem dX7_check_61 : decode cX7_check 61 = .ok (.goto (-39), 3) := dk_167 (by decide +kernel)
theorem dX7_check_54 : decode cX7_check 54 = .ok (.iconst 1, 1) := dk_4 (by decide +kernel)
theorem dX7_check_55 : decode cX7_check 55 = .ok (.iload_n 2, 1) := dk_28 (by decide +kernel)
theorem dX7_check_56 : decode cX7_check 56 = .ok (.iadd, 1) := dk_96 (by decide +kernel)
theorem dX7_check_57 : decode cX7_check 57 = .ok (.ireturn, 1) := dk_172 (by decide +kernel)
theorem dX7_check_0 : decode cX7_check 0 = .ok (.aload_n 0, 1) := dk_42 (by decide +kernel)
theorem dX7_check_1 : decode cX7_check 1 = .ok (.getfield 12, 3) := dk_180 (by decide +kernel)
theorem dX7_check_4 : decode cX7_check 4 = .ok (.getfield 304, 3) := dk_180 (by decide +kernel)
theorem dX7_check_7 : decode cX7_check 7 = .ok (.istore_n 1, 1) := dk_60 (by decide +kernel)
theorem dX7_check_8 : decode cX7_check 8 = .ok (.aload_n 0, 1) := dk_42 (by decide +kernel)
theorem dX7_check_9 : decode cX7_check 9 = .ok (.getfield 12, 3) := dk_180 (by decide +kernel)
theorem dX7_check_12 : decode cX7_check 12 = .ok (.iconst 0, 1) := dk_3 (by decide +kernel)
theorem dX7_check_13 : decode cX7_check 13 = .ok (.putfield 304, 3) := dk_181 (by decide +kernel)
theorem dX7_check_16 : decode cX7_check 16 = .ok (.aload_n 0, 1) := dk_42 (by decide +kernel)
theorem dX7_check_17 : decode cX7_check 17 = .ok (.invokevirtual 191, 3) := dk_182 (by decide +kernel)
theorem dX7_check_20 : decode cX7_check 20 = .ok (.iconst 0, 1) := dk_3 (by decide +kernel)
theorem dX7_check_21 : decode cX7_check 21 = .ok (.istore_n 2, 1) := dk_61 (by decide +kernel)
set_option maxRecDepth 100000 in
set_option maxHeartbeats 8000000 in
theorem x_X7_check (l : Launch) (D : va_G) (y : wY) (ad : Nat → Nat) (M : Mem) (K : Int32 → Mem → Prop) (h : wp_X7_check M K) : MI l D y ad yX7_check (Cond.code yX7_check cX7_check 3 (some .int)) 6 M [.ref (ad 0)] K := by
  refine MI_of (by decide) (Nat.le_of_ble_eq_true rfl) ?_
  intro p e s m args below meth c X hr hlocks
  have hL22 : ∀ (i1 : Int32) (n : Nat) (i2 : Int32) (Mb : Mem), wp_X7_check_L22 K i1 n i2 Mb → J p l e (rmN 6) s m args below meth c 0 0 (QI K D y ad M s args below) D y ad (va_A (PL y ad M) s.heap.size) 3 Mb 22 [(0, .ref (ad 0)), (1, .int i1), (2, .int i2)] [] := by
    intro i1 n
    induction n with
    | zero => intro i2 Mb h; exact False.elim h
    | succ n hB22 =>
      intro i2 Mb h
      replace h : wp_X7_check_l22 K i1 (wp_X7_check_L22 K i1 n) i2 Mb := h
      delta wp_X7_check_l22 at h
      refine j_iload_n X 2 rfl rfl dX7_check_22 ?_
      refine j_iload_n X 1 rfl rfl dX7_check_23 ?_
      refine j_icmp_ge X 64 (by decide) dX7_check_24 (fun q_2201 => ?_) (fun q_2201 => ?_)
      · replace h := h.1 q_2201
        refine j_iconst X (v := 0) (by decide) dX7_check_64 ?_
        exact j_iret X hr hlocks dX7_check_65 h
      · replace h := h.2 q_2201
        refine j_aload_n X 0 rfl rfl dX7_check_27 ?_
        refine j_get X cl_0.1 (wE_7 _ cl_0.2) rfl awF7 2 (by decide) aw_21 rfl (v := .ref (ad 49)) rfl dX7_check_28 ?_
        refine j_iconst X (v := 0) (by decide) dX7_check_31 ?_
        refine j_callVNV X (nn := 1) (As := [.int 0]) (st := []) (ci := 0) cl_49.1 (wE_0 _ cl_49.2) rfl aw_439 aw_440 (x_X0_passDay l D y ad 49 0 cl_49 _ _ h) (List.mem_of_getElem? (i := 27) rfl) aw_441 aw_20 (by decide +kernel) ⟨Nat.le_of_ble_eq_true rfl, Nat.le_of_ble_eq_true rfl⟩ rfl (Nat.le_of_ble_eq_true rfl) ⟨Nat.le_of_ble_eq_true rfl, Nat.le_of_ble_eq_true rfl⟩ dX7_check_32 ?_
        intro M2202 h
        refine j_aload_n X 0 rfl rfl dX7_check_35 ?_
        refine j_get X cl_0.1 (wE_7 _ cl_0.2) rfl awF7 0 (by decide) aw_16 rfl (v := .ref (ad 1)) rfl dX7_check_36 ?_
        refine j_getN X cl_1.1 (wE_6 _ cl_1.2) rfl awF6 4 (by decide) (List.mem_of_getElem? (i := 25) rfl) rfl (v := .ref (ad 24)) rfl dX7_check_39 ?_
        refine j_iload_n X 2 rfl rfl dX7_check_42 ?_
        obtain ⟨hi_2203, h⟩ := h
        refine j_iald X cl_24.1 cl_24.2 hi_2203 dX7_check_43 ?_
        refine j_aload_n X 0 rfl rfl dX7_check_44 ?_
        refine j_get X cl_0.1 (wE_7 _ cl_0.2) rfl awF7 2 (by decide) aw_21 rfl (v := .ref (ad 49)) rfl dX7_check_45 ?_
        refine j_callVNI X (nn := 0) (As := []) (st := [.int (M2202 24 i2.toNatClampNeg)]) (ci := 0) cl_49.1 (wE_0 _ cl_49.2) rfl aw_462 aw_463 (x_X0_endedMany l D y ad 49 cl_49 _ _ h) (List.mem_of_getElem? (i := 31) rfl) aw_464 aw_20 (by decide +kernel) ⟨Nat.le_of_ble_eq_true rfl, Nat.le_of_ble_eq_true rfl⟩ rfl (Nat.le_of_ble_eq_true rfl) ⟨Nat.le_of_ble_eq_true rfl, Nat.le_of_ble_eq_true rfl⟩ dX7_check_48 ?_
        intro r2204 M2204 h
        refine j_icmp_eq X 58 (by decide) dX7_check_51 (fun q_2205 => ?_) (fun q_2205 => ?_)
        · replace h := h.1 q_2205
          refine j_iinc X (v := (i2 + 1)) 2 [(2, .int (i2 + 1)), (0, .ref (ad 0)), (1, .int i1)] rfl rfl (by decide) rfl dX7_check_58 ?_
          refine j_goto X 22 (by decide) dX7_check_61 ?_
          refine j_lv (lv1 := [(0, .ref (ad 0)), (1, .int i1), (2, .int (i2 + 1))]) [1, 2, 0] rfl ?_
          exact hB22 _ _ h
        · replace h := h.2 q_2205
          refine j_iconst X (v := 1) (by decide) dX7_check_54 ?_
          refine j_iload_n X 2 rfl rfl dX7_check_55 ?_
          refine j_iadd X dX7_check_56 ?_
          exact j_iret X hr hlocks dX7_check_57 h
  delta wp_X7_check at h
  refine j_lv (lv1 := [(0, .ref (ad 0))]) [0] rfl ?_
  refine j_aload_n X 0 rfl rfl dX7_check_0 ?_
  refine j_get X cl_0.1 (wE_7 _ cl_0.2) rfl awF7 0 (by decide) aw_16 rfl (v := .ref (ad 1)) rfl dX7_check_1 ?_
  refine j_getN X cl_1.1 (wE_6 _ cl_1.2) rfl awF6 6 (by decide) (List.mem_of_getElem? (i := 27) rfl) rfl (v := .int (M 1 6)) rfl dX7_check_4 ?_
  refine j_istore_n X [(1, .int (M 1 6)), (0, .ref (ad 0))] rfl (by decide) rfl dX7_check_7 ?_
  refine j_aload_n X 1 rfl rfl dX7_check_8 ?_
  refine j_get X cl_0.1 (wE_7 _ cl_0.2) rfl awF7 0 (by decide) aw_16 rfl (v := .ref (ad 1)) rfl dX7_check_9 ?_
  refine j_iconst X (v := 0) (by decide) dX7_check_12 ?_
  refine j_putN X (up M 1 6 0) up_o cl_1.1 (wE_6 _ cl_1.2) rfl awF6 6 (by decide) (wP_6_6 _ _ cl_1.2) tyX6 tyX6_ok nmX6 rfl (ty := .int) (by decide +kernel) rfl rfl (Nat.le_of_ble_eq_true rfl) (List.mem_of_getElem? (i := 27) rfl) rfl dX7_check_13 ?_
  refine j_aload_n X 1 rfl rfl dX7_check_16 ?_
  refine j_callVV X (nn := 0) (As := []) (st := []) (ci := 7) cl_0.1 (wE_7 _ cl_0.2) rfl aw_534 aw_535 (x_X7_think l D y ad  _ _ h) aw_533 aw_536 aw_2 (by decide +kernel) ⟨Nat.le_of_ble_eq_true rfl, Nat.le_of_ble_eq_true rfl⟩ rfl (Nat.le_of_ble_eq_true rfl) ⟨Nat.le_of_ble_eq_true rfl, Nat.le_of_ble_eq_true rfl⟩ dX7_check_17 ?_
  intro M1 h
  refine j_iconst X (v := 0) (by decide) dX7_check_20 ?_
  refine j_istore_n X [(2, .int 0), (1, .int (M 1 6)), (0, .ref (ad 0))] rfl (by decide) rfl dX7_check_21 ?_
  refine j_lv (lv1 := [(0, .ref (ad 0)), (1, .int (M 1 6)), (2, .int 0)]) [2, 1, 0] rfl ?_
  obtain ⟨n22, h⟩ := h
  exact hL22 _   n22 _ _ h
theorem dX7_count_0 : decode cX7_count 0 = .ok (.aload_n 0, 1) := dk_42 (by decide +kernel)
theorem dX7_count_1 : decode cX7_count 1 = .ok (.getfield 12, 3) := dk_180 (by decide +kernel)
theorem dX7_count_4 : decode cX7_count 4 = .ok (.getfield 72, 3) := dk_180 (by decide +kernel)
theorem dX7_count_7 : decode cX7_count 7 = .ok (.astore_n 2, 1) := dk_77 (by decide +kernel)
theorem dX7_count_8 : decode cX7_count 8 = .ok (.iload_n 1, 1) := dk_27 (by decide +kernel)
theorem dX7_count_9 : decode cX7_count 9 = .ok (.tableswitch 135 0 11 #[63, 68, 73, 78, 83, 88, 93, 98, 103, 111, 119, 127], 63) := by decide +kernel
theorem dX7_count_72 : decode cX7_count 72 = .ok (.aload_n 2, 1) := dk_44 (by decide +kernel)
theorem dX7_count_73 : decode cX7_count 73 = .ok (.getfield 86, 3) := dk_180 (by decide +kernel)
theorem dX7_count_76 : decode cX7_count 76 = .ok (.ireturn, 1) := dk_172 (by decide +kernel)
theorem dX7_count_77 : decode cX7_count 77 = .ok (.aload_n 2, 1) := dk_44 (by decide +kernel)
theorem dX7_count_78 : decode cX7_count 78 = .ok (.getfield 174, 3) := dk_180 (by decide +kernel)
theorem dX7_count_81 : decode cX7_count 81 = .ok (.ireturn, 1) := dk_172 (by decide +kernel)
theorem dX7_count_82 : decode cX7_count 82 = .ok (.aload_n 2, 1) := dk_44 (by decide +kernel)
theorem dX7_count_83 : decode cX7_count 83 = .ok (.getfield 201, 3) := dk_180 (by decide +kernel)
theorem dX7_count_86 : decode cX7_count 86 = .ok (.ireturn, 1) := dk_172 (by decide +kernel)
theorem dX7_count_87 : decode cX7_count 87 = .ok (.aload_n 2, 1) := dk_44 (by decide +kernel)
theorem dX7_count_88 : decode cX7_count 88 = .ok (.getfield 188, 3) := dk_180 (by decide +kernel)
theorem dX7_count_91 : decode cX7_count 91 = .ok (.ireturn, 1) := dk_172 (by decide +kernel)
theorem dX7_count_92 : decode cX7_count 92 = .ok (.aload_n 2, 1) := dk_44 (by decide +kernel)
theorem dX7_count_93 : decode cX7_count 93 = .ok (.getfield 222, 3) := dk_180 (by decide +kernel)
theorem dX7_count_96 : decode cX7_count 96 = .ok (.ireturn, 1) := dk_172 (by decide +kernel)
theorem dX7_count_97 : decode cX7_count 97 = .ok (.aload_n 2, 1) := dk_44 (by decide +kernel)
theorem dX7_count_98 : decode cX7_count 98 = .ok (.getfield 246, 3) := dk_180 (by decide +kernel)
theorem dX7_count_101 : decode cX7_count 101 = .ok (.ireturn, 1) := dk_172 (by decide +kernel)
theorem dX7_count_102 : decode cX7_count 102 = .ok (.aload_n 2, 1) := dk_44 (by decide +kernel)
theorem dX7_count_103 : decode cX7_count 103 = .ok (.invokevirtual 198, 3) := dk_182 (by decide +kernel)
theorem dX7_count_106 : decode cX7_count 106 = .ok (.ireturn, 1) := dk_172 (by decide +kernel)
theorem dX7_count_107 : decode cX7_count 107 = .ok (.aload_n 2, 1) := dk_44 (by decide +kernel)
theorem dX7_count_108 : decode cX7_count 108 = .ok (.invokevirtual 310, 3) := dk_182 (by decide +kernel)
theorem dX7_count_111 : decode cX7_count 111 = .ok (.ireturn, 1) := dk_172 (by decide +kernel)
theorem dX7_count_112 : decode cX7_count 112 = .ok (.aload_n 0, 1) := dk_42 (by decide +kernel)
theorem dX7_count_113 : decode cX7_count 113 = .ok (.getfield 12, 3) := dk_180 (by decide +kernel)
theorem dX7_count_116 : decode cX7_count 116 = .ok (.getfield 147, 3) := dk_180 (by decide +kernel)
theorem dX7_count_119 : decode cX7_count 119 = .ok (.ireturn, 1) := dk_172 (by decide +kernel)
theorem dX7_count_120 : decode cX7_count 120 = .ok (.aload_n 0, 1) := dk_42 (by decide +kernel)
theorem dX7_count_121 : decode cX7_count 121 = .ok (.getfield 12, 3) := dk_180 (by decide +kernel)
theorem dX7_count_124 : decode cX7_count 124 = .ok (.getfield 304, 3) := dk_180 (by decide +kernel)
theorem dX7_count_127 : decode cX7_count 127 = .ok (.ireturn, 1) := dk_172 (by decide +kernel)
theorem dX7_count_128 : decode cX7_count 128 = .ok (.aload_n 0, 1) := dk_42 (by decide +kernel)
theorem dX7_count_129 : decode cX7_count 129 = .ok (.getfield 45, 3) := dk_180 (by decide +kernel)
theorem dX7_count_132 : decode cX7_count 132 = .ok (.getfield 265, 3) := dk_180 (by decide +kernel)
theorem dX7_count_135 : decode cX7_count 135 = .ok (.ireturn, 1) := dk_172 (by decide +kernel)
theorem dX7_count_136 : decode cX7_count 136 = .ok (.aload_n 0, 1) := dk_42 (by decide +kernel)
theorem dX7_count_137 : decode cX7_count 137 = .ok (.getfield 12, 3) := dk_180 (by decide +kernel)
theorem dX7_count_140 : decode cX7_count 140 = .ok (.getfield 255, 3) := dk_180 (by decide +kernel)
theorem dX7_count_143 : decode cX7_count 143 = .ok (.ireturn, 1) := dk_172 (by decide +kernel)
theorem dX7_count_144 : decode cX7_count 144 = .ok (.aload_n 0, 1) := dk_42 (by decide +kernel)
theorem dX7_count_145 : decode cX7_count 145 = .ok (.ldc 68, 2) := dk_18 (by decide +kernel)
theorem dX7_count_147 : decode cX7_count 147 = .ok (.invokevirtual 69, 3) := dk_182 (by decide +kernel)
theorem dX7_count_150 : decode cX7_count 150 = .ok (.ireturn, 1) := dk_172 (by decide +kernel)
set_option maxRecDepth 100000 in
set_option maxHeartbeats 8000000 in
theorem x_X7_count (l : Launch) (D : va_G) (y : wY) (ad : Nat → Nat) (i1 : Int32) (M : Mem) (K : Int32 → Mem → Prop) (h : wp_X7_count i1 M K) : MI l D y ad yX7_count (Cond.code yX7_count cX7_count 3 (some .int)) 1 M [.ref (ad 0), .int i1] K := by
  refine MI_of (by decide) (Nat.le_of_ble_eq_true rfl) ?_
  intro p e s m args below meth c X hr hlocks
  delta wp_X7_count at h
  refine j_lv (lv1 := [(0, .ref (ad 0)), (1, .int i1)]) [0, 1] rfl ?_
  refine j_aload_n X 0 rfl rfl dX7_count_0 ?_
  refine j_get X cl_0.1 (wE_7 _ cl_0.2) rfl awF7 0 (by decide) aw_16 rfl (v := .ref (ad 1)) rfl dX7_count_1 ?_
  refine j_getN X cl_1.1 (wE_6 _ cl_1.2) rfl awF6 2 (by decide) (List.mem_of_getElem? (i := 23) rfl) rfl (v := .ref (ad 12)) rfl dX7_count_4 ?_
  refine j_astore_n X [(2, .ref (ad 12)), (0, .ref (ad 0)), (1, .int i1)] rfl (by decide) rfl dX7_count_7 ?_
  refine j_iload_n X 2 rfl rfl dX7_count_8 ?_
  by_cases w_1 : i1 = 0
  · replace h := h.1 w_1
    refine j_tsw_in X 72 0 w_1 (by decide) (by decide) (off := 63) rfl (by decide) dX7_count_9 ?_
    refine j_aload_n X 0 rfl rfl dX7_count_72 ?_
    refine j_getN X cl_12.1 (wE_0 _ cl_12.2) rfl awF0 3 (by decide) (List.mem_of_getElem? (i := 15) rfl) rfl (v := .int (M 12 3)) rfl dX7_count_73 ?_
    exact j_iret X hr hlocks dX7_count_76 h
  replace h := h.2 w_1
  by_cases w_2 : i1 = 1
  · replace h := h.1 w_2
    refine j_tsw_in X 77 1 w_2 (by decide) (by decide) (off := 68) rfl (by decide) dX7_count_9 ?_
    refine j_aload_n X 0 rfl rfl dX7_count_77 ?_
    refine j_getN X cl_12.1 (wE_0 _ cl_12.2) rfl awF0 6 (by decide) (List.mem_of_getElem? (i := 18) rfl) rfl (v := .int (M 12 6)) rfl dX7_count_78 ?_
    exact j_iret X hr hlocks dX7_count_81 h
  replace h := h.2 w_2
  by_cases w_3 : i1 = 2
  · replace h := h.1 w_3
    refine j_tsw_in X 82 2 w_3 (by decide) (by decide) (off := 73) rfl (by decide) dX7_count_9 ?_
    refine j_aload_n X 0 rfl rfl dX7_count_82 ?_
    refine j_getN X cl_12.1 (wE_0 _ cl_12.2) rfl awF0 4 (by decide) (List.mem_of_getElem? (i := 16) rfl) rfl (v := .int (M 12 4)) rfl dX7_count_83 ?_
    exact j_iret X hr hlocks dX7_count_86 h
  replace h := h.2 w_3
  by_cases w_4 : i1 = 3
  · replace h := h.1 w_4
    refine j_tsw_in X 87 3 w_4 (by decide) (by decide) (off := 78) rfl (by decide) dX7_count_9 ?_
    refine j_aload_n X 0 rfl rfl dX7_count_87 ?_
    refine j_getN X cl_12.1 (wE_0 _ cl_12.2) rfl awF0 5 (by decide) (List.mem_of_getElem? (i := 17) rfl) rfl (v := .int (M 12 5)) rfl dX7_count_88 ?_
    exact j_iret X hr hlocks dX7_count_91 h
  replace h := h.2 w_4
  by_cases w_5 : i1 = 4
  · replace h := h.1 w_5
    refine j_tsw_in X 92 4 w_5 (by decide) (by decide) (off := 83) rfl (by decide) dX7_count_9 ?_
    refine j_aload_n X 0 rfl rfl dX7_count_92 ?_
    refine j_getN X cl_12.1 (wE_0 _ cl_12.2) rfl awF0 7 (by decide) (List.mem_of_getElem? (i := 19) rfl) rfl (v := .int (M 12 7)) rfl dX7_count_93 ?_
    exact j_iret X hr hlocks dX7_count_96 h
  replace h := h.2 w_5
  by_cases w_6 : i1 = 5
  · replace h := h.1 w_6
    refine j_tsw_in X 97 5 w_6 (by decide) (by decide) (off := 88) rfl (by decide) dX7_count_9 ?_
    refine j_aload_n X 0 rfl rfl dX7_count_97 ?_
    refine j_getN X cl_12.1 (wE_0 _ cl_12.2) rfl awF0 8 (by decide) (List.mem_of_getElem? (i := 20) rfl) rfl (v := .int (M 12 8)) rfl dX7_count_98 ?_
    exact j_iret X hr hlocks dX7_count_101 h
  replace h := h.2 w_6
  by_cases w_7 : i1 = 6
  · replace h := h.1 w_7
    refine j_tsw_in X 102 6 w_7 (by decide) (by decide) (off := 93) rfl (by decide) dX7_count_9 ?_
    refine j_aload_n X 0 rfl rfl dX7_count_102 ?_
    refine j_callVNI X (nn := 0) (As := []) (st := []) (ci := 0) cl_12.1 (wE_0 _ cl_12.2) rfl aw_466 aw_467 (x_X0_setEnded l D y ad 12 cl_12 _ _ h) (List.mem_of_getElem? (i := 35) rfl) aw_468 aw_20 (by decide +kernel) ⟨Nat.le_of_ble_eq_true rfl, Nat.le_of_ble_eq_true rfl⟩ rfl (Nat.le_of_ble_eq_true rfl) ⟨Nat.le_of_ble_eq_true rfl, Nat.le_of_ble_eq_true rfl⟩ dX7_count_103 ?_
    intro r8 M8 h
    exact j_iret X hr hlocks dX7_count_106 h
  replace h := h.2 w_7
  by_cases w_9 : i1 = 7
  · replace h := h.1 w_9
    refine j_tsw_in X 107 7 w_9 (by decide) (by decide) (off := 98) rfl (by decide) dX7_count_9 ?_
    refine j_aload_n X 0 rfl rfl dX7_count_107 ?_
    refine j_callVNI X (nn := 0) (As := []) (st := []) (ci := 0) cl_12.1 (wE_0 _ cl_12.2) rfl aw_908 aw_909 (x_X0_edgesTogether l D y ad 12 cl_12 _ _ h) (List.mem_of_getElem? (i := 51) rfl) aw_910 aw_20 (by decide +kernel) ⟨Nat.le_of_ble_eq_true rfl, Nat.le_of_ble_eq_true rfl⟩ rfl (Nat.le_of_ble_eq_true rfl) ⟨Nat.le_of_ble_eq_true rfl, Nat.le_of_ble_eq_true rfl⟩ dX7_count_108 ?_
    intro r10 M10 h
    exact j_iret X hr hlocks dX7_count_111 h
  replace h := h.2 w_9
  by_cases w_11 : i1 = 8
  · replace h := h.1 w_11
    refine j_tsw_in X 112 8 w_11 (by decide) (by decide) (off := 103) rfl (by decide) dX7_count_9 ?_
    refine j_aload_n X 1 rfl rfl dX7_count_112 ?_
    refine j_get X cl_0.1 (wE_7 _ cl_0.2) rfl awF7 0 (by decide) aw_16 rfl (v := .ref (ad 1)) rfl dX7_count_113 ?_
    refine j_getN X cl_1.1 (wE_6 _ cl_1.2) rfl awF6 5 (by decide) (List.mem_of_getElem? (i := 26) rfl) rfl (v := .int (M 1 5)) rfl dX7_count_116 ?_
    exact j_iret X hr hlocks dX7_count_119 h
  replace h := h.2 w_11
  by_cases w_12 : i1 = 9
  · replace h := h.1 w_12
    refine j_tsw_in X 120 9 w_12 (by decide) (by decide) (off := 111) rfl (by decide) dX7_count_9 ?_
    refine j_aload_n X 1 rfl rfl dX7_count_120 ?_
    refine j_get X cl_0.1 (wE_7 _ cl_0.2) rfl awF7 0 (by decide) aw_16 rfl (v := .ref (ad 1)) rfl dX7_count_121 ?_
    refine j_getN X cl_1.1 (wE_6 _ cl_1.2) rfl awF6 6 (by decide) (List.mem_of_getElem? (i := 27) rfl) rfl (v := .int (M 1 6)) rfl dX7_count_124 ?_
    exact j_iret X hr hlocks dX7_count_127 h
  replace h := h.2 w_12
  by_cases w_13 : i1 = 10
  · replace h := h.1 w_13
    refine j_tsw_in X 128 10 w_13 (by decide) (by decide) (off := 119) rfl (by decide) dX7_count_9 ?_
    refine j_aload_n X 1 rfl rfl dX7_count_128 ?_
    refine j_get X cl_0.1 (wE_7 _ cl_0.2) rfl awF7 4 (by decide) aw_29 rfl (v := .ref (ad 67)) rfl dX7_count_129 ?_
    refine j_getN X cl_67.1 (wE_5 _ cl_67.2) rfl awF5 1 (by decide) (List.mem_of_getElem? (i := 31) rfl) rfl (v := .int (M 67 1)) rfl dX7_count_132 ?_
    exact j_iret X hr hlocks dX7_count_135 h
  replace h := h.2 w_13
  by_cases w_14 : i1 = 11
  · replace h := h.1 w_14
    refine j_tsw_in X 136 11 w_14 (by decide) (by decide) (off := 127) rfl (by decide) dX7_count_9 ?_
    refine j_aload_n X 1 rfl rfl dX7_count_136 ?_
    refine j_get X cl_0.1 (wE_7 _ cl_0.2) rfl awF7 0 (by decide) aw_16 rfl (v := .ref (ad 1)) rfl dX7_count_137 ?_
    refine j_getN X cl_1.1 (wE_6 _ cl_1.2) rfl awF6 7 (by decide) (List.mem_of_getElem? (i := 28) rfl) rfl (v := .int (M 1 7)) rfl dX7_count_140 ?_
    exact j_iret X hr hlocks dX7_count_143 h
  replace h := h.2 w_14
  have qw_1 := ti_ne (n := 0) (by decide) w_1
  have qw_2 := ti_ne (n := 1) (by decide) w_2
  have qw_3 := ti_ne (n := 2) (by decide) w_3
  have qw_4 := ti_ne (n := 3) (by decide) w_4
  have qw_5 := ti_ne (n := 4) (by decide) w_5
  have qw_6 := ti_ne (n := 5) (by decide) w_6
  have qw_7 := ti_ne (n := 6) (by decide) w_7
  have qw_9 := ti_ne (n := 7) (by decide) w_9
  have qw_11 := ti_ne (n := 8) (by decide) w_11
  have qw_12 := ti_ne (n := 9) (by decide) w_12
  have qw_13 := ti_ne (n := 10) (by decide) w_13
  have qw_14 := ti_ne (n := 11) (by decide) w_14
  refine j_tsw_out X 144 (by omega) (by decide) dX7_count_9 ?_
  refine j_aload_n X 1 rfl rfl dX7_count_144 ?_
  refine j_ldc X (v := (-1000000001)) aw_108 dX7_count_145 ?_
  refine j_callVI X (nn := 1) (As := [.int (-1000000001)]) (st := []) (ci := 7) cl_0.1 (wE_7 _ cl_0.2) rfl aw_117 aw_118 (x_X7_refuse l D y ad (-1000000001) _ _ h) aw_116 aw_119 aw_2 (by decide +kernel) ⟨Nat.le_of_ble_eq_true rfl, Nat.le_of_ble_eq_true rfl⟩ rfl (Nat.le_of_ble_eq_true rfl) ⟨Nat.le_of_ble_eq_true rfl, Nat.le_of_ble_eq_true rfl⟩ dX7_count_147 ?_
  intro r15 M15 h
  exact j_iret X hr hlocks dX7_count_150 h
theorem dX7_told_0 : decode cX7_told 0 = .ok (.iload_n 1, 1) := dk_27 (by decide +kernel)
theorem dX7_told_1 : decode cX7_told 1 = .ok (.iconst 1, 1) := dk_4 (by decide +kernel)
theorem dX7_told_2 : decode cX7_told 2 = .ok (.iconst 5, 1) := dk_8 (by decide +kernel)
theorem dX7_told_3 : decode cX7_told 3 = .ok (.invokestatic 60, 3) := dk_184 (by decide +kernel)
theorem dX7_told_6 : decode cX7_told 6 = .ok (.ifCond .eq 12, 3) := dk_153 (by decide +kernel)
theorem dX7_told_18 : decode cX7_told 18 = .ok (.aload_n 0, 1) := dk_42 (by decide +kernel)
theorem dX7_told_19 : decode cX7_told 19 = .ok (.ldc 68, 2) := dk_18 (by decide +kernel)
theorem dX7_told_21 : decode cX7_told 21 = .ok (.invokevirtual 69, 3) := dk_182 (by decide +kernel)
theorem dX7_told_24 : decode cX7_told 24 = .ok (.ireturn, 1) := dk_172 (by decide +kernel)
theorem dX7_told_9 : decode cX7_told 9 = .ok (.aload_n 0, 1) := dk_42 (by decide +kernel)
theorem dX7_told_10 : decode cX7_told 10 = .ok (.getfield 55, 3) := dk_180 (by decide +kernel)
theorem dX7_told_13 : decode cX7_told 13 = .ok (.iload_n 1, 1) := dk_27 (by decide +kernel)
theorem dX7_told_14 : decode cX7_told 14 = .ok (.iaload, 1) := dk_46 (by decide +kernel)
theorem dX7_told_15 : decode cX7_told 15 = .ok (.goto 9, 3) := dk_167 (by decide +kernel)
set_option maxRecDepth 100000 in
set_option maxHeartbeats 8000000 in
theorem x_X7_told (l : Launch) (D : va_G) (y : wY) (ad : Nat → Nat) (i1 : Int32) (M : Mem) (K : Int32 → Mem → Prop) (h : wp_X7_told i1 M K) : MI l D y ad yX7_told (Cond.code yX7_told cX7_told 2 (some .int)) 1 M [.ref (ad 0), .int i1] K := by
  refine MI_of (by decide) (Nat.le_of_ble_eq_true rfl) ?_
  intro p e s m args below meth c X hr hlocks
  delta wp_X7_told at h
  refine j_lv (lv1 := [(0, .ref (ad 0)), (1, .int i1)]) [0, 1] rfl ?_
  refine j_iload_n X 1 rfl rfl dX7_told_0 ?_
  refine j_iconst X (v := 1) (by decide) dX7_told_1 ?_
  refine j_iconst X (v := 5) (by decide) dX7_told_2 ?_
  refine j_callSI X (nn := 3) (As := [.int i1, .int 1, .int 5]) (st := []) aw_110 (x_X7_isWithin l D y ad i1 1 5 _ _ h) aw_109 aw_111 aw_2 (by decide +kernel) ⟨Nat.le_of_ble_eq_true rfl, Nat.le_of_ble_eq_true rfl⟩ rfl (Nat.le_of_ble_eq_true rfl) ⟨Nat.le_of_ble_eq_true rfl, Nat.le_of_ble_eq_true rfl⟩ dX7_told_3 ?_
  intro r1 M1 h
  refine j_if_eq X 18 (by decide) dX7_told_6 (fun q_2 => ?_) (fun q_2 => ?_)
  · replace h := h.1 q_2
    refine j_aload_n X 0 rfl rfl dX7_told_18 ?_
    refine j_ldc X (v := (-1000000001)) aw_108 dX7_told_19 ?_
    refine j_callVI X (nn := 1) (As := [.int (-1000000001)]) (st := []) (ci := 7) cl_0.1 (wE_7 _ cl_0.2) rfl aw_117 aw_118 (x_X7_refuse l D y ad (-1000000001) _ _ h) aw_116 aw_119 aw_2 (by decide +kernel) ⟨Nat.le_of_ble_eq_true rfl, Nat.le_of_ble_eq_true rfl⟩ rfl (Nat.le_of_ble_eq_true rfl) ⟨Nat.le_of_ble_eq_true rfl, Nat.le_of_ble_eq_true rfl⟩ dX7_told_21 ?_
    intro r3 M3 h
    exact j_iret X hr hlocks dX7_told_24 h
  · replace h := h.2 q_2
    refine j_aload_n X 0 rfl rfl dX7_told_9 ?_
    refine j_get X cl_0.1 (wE_7 _ cl_0.2) rfl awF7 6 (by decide) aw_33 rfl (v := .ref (ad 78)) rfl dX7_told_10 ?_
    refine j_iload_n X 1 rfl rfl dX7_told_13 ?_
    obtain ⟨hi_4, h⟩ := h
    refine j_iald X cl_78.1 cl_78.2 hi_4 dX7_told_14 ?_
    refine j_goto X 24 (by decide) dX7_told_15 ?_
    exact j_iret X hr hlocks dX7_told_24 h
