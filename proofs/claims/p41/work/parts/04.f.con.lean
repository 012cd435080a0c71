theorem dX7_then_0 : decode cX7_then 0 = .ok (.iload_n 1, 1) := dk_27 (by decide +kernel)
theorem dX7_then_1 : decode cX7_then 1 = .ok (.iconst 0, 1) := dk_3 (by decide +kernel)
theorem dX7_then_2 : decode cX7_then 2 = .ok (.bipush 60, 2) := dk_16 (by decide +kernel)
theorem dX7_then_4 : decode cX7_then 4 = .ok (.invokestatic 60, 3) := dk_184 (by decide +kernel)
theorem dX7_then_7 : decode cX7_then 7 = .ok (.ifCond .eq 20, 3) := dk_153 (by decide +kernel)
theorem dX7_then_27 : decode cX7_then 27 = .ok (.aload_n 0, 1) := dk_42 (by decide +kernel)
theorem dX7_then_28 : decode cX7_then 28 = .ok (.ldc 68, 2) := dk_18 (by decide +kernel)
theorem dX7_then_30 : decode cX7_then 30 = .ok (.invokevirtual 69, 3) := dk_182 (by decide +kernel)
theorem dX7_then_33 : decode cX7_then 33 = .ok (.ireturn, 1) := dk_172 (by decide +kernel)
theorem dX7_then_10 : decode cX7_then 10 = .ok (.aload_n 0, 1) := dk_42 (by decide +kernel)
theorem dX7_then_11 : decode cX7_then 11 = .ok (.iload_n 2, 1) := dk_28 (by decide +kernel)
theorem dX7_then_12 : decode cX7_then 12 = .ok (.invokevirtual 117, 3) := dk_182 (by decide +kernel)
theorem dX7_then_15 : decode cX7_then 15 = .ok (.ifCond .eq 12, 3) := dk_153 (by decide +kernel)
theorem dX7_then_18 : decode cX7_then 18 = .ok (.iload_n 3, 1) := dk_29 (by decide +kernel)
theorem dX7_then_19 : decode cX7_then 19 = .ok (.iconst 0, 1) := dk_3 (by decide +kernel)
theorem dX7_then_20 : decode cX7_then 20 = .ok (.iconst 2, 1) := dk_5 (by decide +kernel)
theorem dX7_then_21 : decode cX7_then 21 = .ok (.invokestatic 60, 3) := dk_184 (by decide +kernel)
theorem dX7_then_24 : decode cX7_then 24 = .ok (.ifCond .ne 10, 3) := dk_154 (by decide +kernel)
theorem dX7_then_34 : decode cX7_then 34 = .ok (.aload_n 0, 1) := dk_42 (by decide +kernel)
theorem dX7_then_35 : decode cX7_then 35 = .ok (.invokevirtual 191, 3) := dk_182 (by decide +kernel)
theorem dX7_then_38 : decode cX7_then 38 = .ok (.aload_n 0, 1) := dk_42 (by decide +kernel)
theorem dX7_then_39 : decode cX7_then 39 = .ok (.iload_n 1, 1) := dk_27 (by decide +kernel)
theorem dX7_then_40 : decode cX7_then 40 = .ok (.invokevirtual 194, 3) := dk_182 (by decide +kernel)
theorem dX7_then_43 : decode cX7_then 43 = .ok (.aload_n 0, 1) := dk_42 (by decide +kernel)
theorem dX7_then_44 : decode cX7_then 44 = .ok (.getfield 31, 3) := dk_180 (by decide +kernel)
theorem dX7_then_47 : decode cX7_then 47 = .ok (.getfield 91, 3) := dk_180 (by decide +kernel)
theorem dX7_then_50 : decode cX7_then 50 = .ok (.iload_n 2, 1) := dk_28 (by decide +kernel)
theorem dX7_then_51 : decode cX7_then 51 = .ok (.aaload, 1) := dk_50 (by decide +kernel)
theorem dX7_then_52 : decode cX7_then 52 = .ok (.astore 4, 2) := dk_58 (by decide +kernel)
theorem dX7_then_54 : decode cX7_then 54 = .ok (.iload_n 3, 1) := dk_29 (by decide +kernel)
theorem dX7_then_55 : decode cX7_then 55 = .ok (.lookupswitch 45 #[(0, 25), (1, 31)], 25) := by decide +kernel
theorem dX7_then_80 : decode cX7_then 80 = .ok (.aload 4, 2) := dk_25 (by decide +kernel)
theorem dX7_then_82 : decode cX7_then 82 = .ok (.getfield 104, 3) := dk_180 (by decide +kernel)
theorem dX7_then_85 : decode cX7_then 85 = .ok (.ireturn, 1) := dk_172 (by decide +kernel)
theorem dX7_then_86 : decode cX7_then 86 = .ok (.aload 4, 2) := dk_25 (by decide +kernel)
theorem dX7_then_88 : decode cX7_then 88 = .ok (.getfield 110, 3) := dk_180 (by decide +kernel)
theorem dX7_then_91 : decode cX7_then 91 = .ok (.ifCond .eq 7, 3) := dk_153 (by decide +kernel)
theorem dX7_then_98 : decode cX7_then 98 = .ok (.iconst 0, 1) := dk_3 (by decide +kernel)
theorem dX7_then_99 : decode cX7_then 99 = .ok (.ireturn, 1) := dk_172 (by decide +kernel)
theorem dX7_then_94 : decode cX7_then 94 = .ok (.iconst 1, 1) := dk_4 (by decide +kernel)
theorem dX7_then_95 : decode cX7_then 95 = .ok (.goto 4, 3) := dk_167 (by decide +kernel)
theorem dX7_then_100 : decode cX7_then 100 = .ok (.aload 4, 2) := dk_25 (by decide +kernel)
theorem dX7_then_102 : decode cX7_then 102 = .ok (.getfield 114, 3) := dk_180 (by decide +kernel)
theorem dX7_then_105 : decode cX7_then 105 = .ok (.ireturn, 1) := dk_172 (by decide +kernel)
set_option maxRecDepth 100000 in
set_option maxHeartbeats 8000000 in
theorem x_X7_then (l : Launch) (D : va_G) (y : wY) (ad : Nat → Nat) (i1 : Int32) (i2 : Int32) (i3 : Int32) (M : Mem) (K : Int32 → Mem → Prop) (h : wp_X7_then i1 i2 i3 M K) : MI l D y ad yX7_then (Cond.code yX7_then cX7_then 5 (some .int)) 7 M [.ref (ad 0), .int i1, .int i2, .int i3] K := by
  refine MI_of (by decide) (Nat.le_of_ble_eq_true rfl) ?_
  intro p e s m args below meth c X hr hlocks
  delta wp_X7_then at h
  refine j_lv (lv1 := [(0, .ref (ad 0)), (1, .int i1), (2, .int i2), (3, .int i3)]) [0, 1, 2, 3] rfl ?_
  refine j_iload_n X 1 rfl rfl dX7_then_0 ?_
  refine j_iconst X (v := 0) (by decide) dX7_then_1 ?_
  refine j_bipush X (v := 60) (by decide) dX7_then_2 ?_
  refine j_callSI X (nn := 3) (As := [.int i1, .int 0, .int 60]) (st := []) aw_110 (x_X7_isWithin l D y ad i1 0 60 _ _ h) aw_109 aw_111 aw_2 (by decide +kernel) ⟨Nat.le_of_ble_eq_true rfl, Nat.le_of_ble_eq_true rfl⟩ rfl (Nat.le_of_ble_eq_true rfl) ⟨Nat.le_of_ble_eq_true rfl, Nat.le_of_ble_eq_true rfl⟩ dX7_then_4 ?_
  intro r1 M1 h
  refine j_if_eq X 27 (by decide) dX7_then_7 (fun q_2 => ?_) (fun q_2 => ?_)
  · replace h := h.1 q_2
    refine j_aload_n X 0 rfl rfl dX7_then_27 ?_
    refine j_ldc X (v := (-1000000001)) aw_108 dX7_then_28 ?_
    refine j_callVI X (nn := 1) (As := [.int (-1000000001)]) (st := []) (ci := 7) cl_0.1 (wE_7 _ cl_0.2) rfl aw_117 aw_118 (x_X7_refuse l D y ad (-1000000001) _ _ h) aw_116 aw_119 aw_2 (by decide +kernel) ⟨Nat.le_of_ble_eq_true rfl, Nat.le_of_ble_eq_true rfl⟩ rfl (Nat.le_of_ble_eq_true rfl) ⟨Nat.le_of_ble_eq_true rfl, Nat.le_of_ble_eq_true rfl⟩ dX7_then_30 ?_
    intro r3 M3 h
    exact j_iret X hr hlocks dX7_then_33 h
  · replace h := h.2 q_2
    refine j_aload_n X 0 rfl rfl dX7_then_10 ?_
    refine j_iload_n X 2 rfl rfl dX7_then_11 ?_
    refine j_callVI X (nn := 1) (As := [.int i2]) (st := []) (ci := 7) cl_0.1 (wE_7 _ cl_0.2) rfl aw_191 aw_192 (x_X7_isQuarrel l D y ad i2 _ _ h) aw_190 aw_193 aw_2 (by decide +kernel) ⟨Nat.le_of_ble_eq_true rfl, Nat.le_of_ble_eq_true rfl⟩ rfl (Nat.le_of_ble_eq_true rfl) ⟨Nat.le_of_ble_eq_true rfl, Nat.le_of_ble_eq_true rfl⟩ dX7_then_12 ?_
    intro r4 M4 h
    refine j_if_eq X 27 (by decide) dX7_then_15 (fun q_5 => ?_) (fun q_5 => ?_)
    · replace h := h.1 q_5
      refine j_aload_n X 0 rfl rfl dX7_then_27 ?_
      refine j_ldc X (v := (-1000000001)) aw_108 dX7_then_28 ?_
      refine j_callVI X (nn := 1) (As := [.int (-1000000001)]) (st := []) (ci := 7) cl_0.1 (wE_7 _ cl_0.2) rfl aw_117 aw_118 (x_X7_refuse l D y ad (-1000000001) _ _ h) aw_116 aw_119 aw_2 (by decide +kernel) ⟨Nat.le_of_ble_eq_true rfl, Nat.le_of_ble_eq_true rfl⟩ rfl (Nat.le_of_ble_eq_true rfl) ⟨Nat.le_of_ble_eq_true rfl, Nat.le_of_ble_eq_true rfl⟩ dX7_then_30 ?_
      intro r6 M6 h
      exact j_iret X hr hlocks dX7_then_33 h
    · replace h := h.2 q_5
      refine j_iload_n X 3 rfl rfl dX7_then_18 ?_
      refine j_iconst X (v := 0) (by decide) dX7_then_19 ?_
      refine j_iconst X (v := 2) (by decide) dX7_then_20 ?_
      refine j_callSI X (nn := 3) (As := [.int i3, .int 0, .int 2]) (st := []) aw_110 (x_X7_isWithin l D y ad i3 0 2 _ _ h) aw_109 aw_111 aw_2 (by decide +kernel) ⟨Nat.le_of_ble_eq_true rfl, Nat.le_of_ble_eq_true rfl⟩ rfl (Nat.le_of_ble_eq_true rfl) ⟨Nat.le_of_ble_eq_true rfl, Nat.le_of_ble_eq_true rfl⟩ dX7_then_21 ?_
      intro r7 M7 h
      refine j_if_ne X 34 (by decide) dX7_then_24 (fun q_8 => ?_) (fun q_8 => ?_)
      · replace h := h.1 q_8
        refine j_aload_n X 0 rfl rfl dX7_then_34 ?_
        refine j_callVV X (nn := 0) (As := []) (st := []) (ci := 7) cl_0.1 (wE_7 _ cl_0.2) rfl aw_534 aw_535 (x_X7_think l D y ad  _ _ h) aw_533 aw_536 aw_2 (by decide +kernel) ⟨Nat.le_of_ble_eq_true rfl, Nat.le_of_ble_eq_true rfl⟩ rfl (Nat.le_of_ble_eq_true rfl) ⟨Nat.le_of_ble_eq_true rfl, Nat.le_of_ble_eq_true rfl⟩ dX7_then_35 ?_
        intro M9 h
        refine j_aload_n X 0 rfl rfl dX7_then_38 ?_
        refine j_iload_n X 1 rfl rfl dX7_then_39 ?_
        refine j_callVV X (nn := 1) (As := [.int i1]) (st := []) (ci := 7) cl_0.1 (wE_7 _ cl_0.2) rfl aw_545 aw_546 (x_X7_thinkDays l D y ad i1 _ _ h) aw_544 aw_547 aw_2 (by decide +kernel) ⟨Nat.le_of_ble_eq_true rfl, Nat.le_of_ble_eq_true rfl⟩ rfl (Nat.le_of_ble_eq_true rfl) ⟨Nat.le_of_ble_eq_true rfl, Nat.le_of_ble_eq_true rfl⟩ dX7_then_40 ?_
        intro M10 h
        refine j_aload_n X 0 rfl rfl dX7_then_43 ?_
        refine j_get X cl_0.1 (wE_7 _ cl_0.2) rfl awF7 2 (by decide) aw_21 rfl (v := .ref (ad 49)) rfl dX7_then_44 ?_
        refine j_getN X cl_49.1 (wE_0 _ cl_49.2) rfl awF0 2 (by decide) (List.mem_of_getElem? (i := 14) rfl) rfl (v := .ref (ad 50)) rfl dX7_then_47 ?_
        refine j_iload_n X 2 rfl rfl dX7_then_50 ?_
        obtain ⟨hi_11, h⟩ := h
        refine j_aald10 X cl_50.1 cl_50.2 hi_11 dX7_then_51 ?_
        refine j_eqr (v := (51 + i2.toNatClampNeg)) (re_50 hi_11) ?_
        have hk_12 := rc_50 hi_11
        refine j_astore X [(4, .ref (ad (51 + i2.toNatClampNeg))), (0, .ref (ad 0)), (1, .int i1), (2, .int i2), (3, .int i3)] (by decide) rfl dX7_then_52 ?_
        refine j_iload_n X 4 rfl rfl dX7_then_54 ?_
        by_cases w_13 : i3 = 0
        · replace h := h.1 w_13
          refine j_lsw X 80 (by decide) (off := 25) (by rw [w_13]; decide) (by decide) dX7_then_55 ?_
          refine j_aload X 0 rfl dX7_then_80 ?_
          refine j_getN X hk_12.1 (wE_1 _ hk_12.2) rfl awF1 3 (by decide) (List.mem_of_getElem? (i := 6) rfl) rfl (v := .int (M10 (51 + i2.toNatClampNeg) 3)) rfl dX7_then_82 ?_
          exact j_iret X hr hlocks dX7_then_85 h
        replace h := h.2 w_13
        by_cases w_14 : i3 = 1
        · replace h := h.1 w_14
          refine j_lsw X 86 (by decide) (off := 31) (by rw [w_14]; decide) (by decide) dX7_then_55 ?_
          refine j_aload X 0 rfl dX7_then_86 ?_
          refine j_getN X hk_12.1 (wE_1 _ hk_12.2) rfl awF1 6 (by decide) (List.mem_of_getElem? (i := 12) rfl) rfl (v := .int (M10 (51 + i2.toNatClampNeg) 6)) rfl dX7_then_88 ?_
          refine j_if_eq X 98 (by decide) dX7_then_91 (fun q_15 => ?_) (fun q_15 => ?_)
          · replace h := h.1 q_15
            refine j_iconst X (v := 0) (by decide) dX7_then_98 ?_
            exact j_iret X hr hlocks dX7_then_99 h
          · replace h := h.2 q_15
            refine j_iconst X (v := 1) (by decide) dX7_then_94 ?_
            refine j_goto X 99 (by decide) dX7_then_95 ?_
            exact j_iret X hr hlocks dX7_then_99 h
        replace h := h.2 w_14
        have qw_13 := ti_ne (n := 0) (by decide) w_13
        have qw_14 := ti_ne (n := 1) (by decide) w_14
        refine j_lsw X 100 (by decide) (off := 45) (by simp [Op.lookupswitch.offset, qw_13, Ne.symm qw_13, qw_14, Ne.symm qw_14]) (by decide) dX7_then_55 ?_
        refine j_aload X 0 rfl dX7_then_100 ?_
        refine j_getN X hk_12.1 (wE_1 _ hk_12.2) rfl awF1 5 (by decide) (List.mem_of_getElem? (i := 10) rfl) rfl (v := .int (M10 (51 + i2.toNatClampNeg) 5)) rfl dX7_then_102 ?_
        exact j_iret X hr hlocks dX7_then_105 h
      · replace h := h.2 q_8
        refine j_aload_n X 0 rfl rfl dX7_then_27 ?_
        refine j_ldc X (v := (-1000000001)) aw_108 dX7_then_28 ?_
        refine j_callVI X (nn := 1) (As := [.int (-1000000001)]) (st := []) (ci := 7) cl_0.1 (wE_7 _ cl_0.2) rfl aw_117 aw_118 (x_X7_refuse l D y ad (-1000000001) _ _ h) aw_116 aw_119 aw_2 (by decide +kernel) ⟨Nat.le_of_ble_eq_true rfl, Nat.le_of_ble_eq_true rfl⟩ rfl (Nat.le_of_ble_eq_true rfl) ⟨Nat.le_of_ble_eq_true rfl, Nat.le_of_ble_eq_true rfl⟩ dX7_then_30 ?_
        intro r16 M16 h
        exact j_iret X hr hlocks dX7_then_33 h
theorem dX7_when_21 : decode cX7_when 21 = .ok (.iload_n 2, 1) := dk_28 (by decide +kernel)
theorem dX7_when_22 : decode cX7_when 22 = .ok (.bipush 60, 2) := dk_16 (by decide +kernel)
theorem dX7_when_24 : decode cX7_when 24 = .ok (.if_icmp .gt 34, 3) := dk_163 (by decide +kernel)
theorem dX7_when_58 : decode cX7_when 58 = .ok (.aload_n 0, 1) := dk_42 (by decide +kernel)
theorem dX7_when_59 : decode cX7_when 59 = .ok (.ldc 197, 2) := dk_18 (by decide +kernel)
theorem dX7_when_61 : decode cX7_when 61 = .ok (.invokevirtual 69, 3) := dk_182 (by decide +kernel)
theorem dX7_when_64 : decode cX7_when 64 = .ok (.ireturn, 1) := dk_172 (by decide +kernel)
theorem dX7_when_27 : decode cX7_when 27 = .ok (.aload_n 0, 1) := dk_42 (by decide +kernel)
theorem dX7_when_28 : decode cX7_when 28 = .ok (.getfield 31, 3) := dk_180 (by decide +kernel)
theorem dX7_when_31 : decode cX7_when 31 = .ok (.getfield 91, 3) := dk_180 (by decide +kernel)
theorem dX7_when_34 : decode cX7_when 34 = .ok (.iload_n 1, 1) := dk_27 (by decide +kernel)
theorem dX7_when_35 : decode cX7_when 35 = .ok (.aaload, 1) := dk_50 (by decide +kernel)
theorem dX7_when_36 : decode cX7_when 36 = .ok (.getfield 110, 3) := dk_180 (by decide +kernel)
theorem dX7_when_39 : decode cX7_when 39 = .ok (.ifCond .eq 5, 3) := dk_153 (by decide +kernel)
theorem dX7_when_44 : decode cX7_when 44 = .ok (.aload_n 0, 1) := dk_42 (by decide +kernel)
theorem dX7_when_45 : decode cX7_when 45 = .ok (.getfield 31, 3) := dk_180 (by decide +kernel)
theorem dX7_when_48 : decode cX7_when 48 = .ok (.iconst 0, 1) := dk_3 (by decide +kernel)
theorem dX7_when_49 : decode cX7_when 49 = .ok (.invokevirtual 178, 3) := dk_182 (by decide +kernel)
theorem dX7_when_52 : decode cX7_when 52 = .ok (.iinc 2 1, 3) := dk_132 (by decide +kernel)
theorem dX7_when_55 : decode cX7_when 55 = .ok (.goto (-34), 3) := dk_167 (by decide +kernel)
theorem dX7_when_42 : decode cX7_when 42 = .ok (.iload_n 2, 1) := dk_28 (by decide +kernel)
theorem dX7_when_43 : decode cX7_when 43 = .ok (.ireturn, 1) := dk_172 (by decide +kernel)
theorem dX7_when_0 : decode cX7_when 0 = .ok (.aload_n 0, 1) := dk_42 (by decide +kernel)
theorem dX7_when_1 : decode cX7_when 1 = .ok (.iload_n 1, 1) := dk_27 (by decide +kernel)
theorem dX7_when_2 : decode cX7_when 2 = .ok (.invokevirtual 117, 3) := dk_182 (by decide +kernel)
theorem dX7_when_5 : decode cX7_when 5 = .ok (.ifCond .ne 10, 3) := dk_154 (by decide +kernel)
theorem dX7_when_15 : decode cX7_when 15 = .ok (.aload_n 0, 1) := dk_42 (by decide +kernel)
theorem dX7_when_16 : decode cX7_when 16 = .ok (.invokevirtual 191, 3) := dk_182 (by decide +kernel)
theorem dX7_when_19 : decode cX7_when 19 = .ok (.iconst 0, 1) := dk_3 (by decide +kernel)
theorem dX7_when_20 : decode cX7_when 20 = .ok (.istore_n 2, 1) := dk_61 (by decide +kernel)
theorem dX7_when_8 : decode cX7_when 8 = .ok (.aload_n 0, 1) := dk_42 (by decide +kernel)
theorem dX7_when_9 : decode cX7_when 9 = .ok (.ldc 68, 2) := dk_18 (by decide +kernel)
theorem dX7_when_11 : decode cX7_when 11 = .ok (.invokevirtual 69, 3) := dk_182 (by decide +kernel)
theorem dX7_when_14 : decode cX7_when 14 = .ok (.ireturn, 1) := dk_172 (by decide +kernel)
set_option maxRecDepth 100000 in
set_option maxHeartbeats 8000000 in
theorem x_X7_when (l : Launch) (D : va_G) (y : wY) (ad : Nat → Nat) (i1 : Int32) (M : Mem) (K : Int32 → Mem → Prop) (h : wp_X7_when i1 M K) : MI l D y ad yX7_when (Cond.code yX7_when cX7_when 3 (some .int)) 6 M [.ref (ad 0), .int i1] K := by
  refine MI_of (by decide) (Nat.le_of_ble_eq_true rfl) ?_
  intro p e s m args below meth c X hr hlocks
  have hL21 : ∀ (i1 : Int32) (n : Nat) (i2 : Int32) (Mb : Mem), wp_X7_when_L21 K i1 n i2 Mb → J p l e (rmN 6) s m args below meth c 0 0 (QI K D y ad M s args below) D y ad (va_A (PL y ad M) s.heap.size) 3 Mb 21 [(0, .ref (ad 0)), (1, .int i1), (2, .int i2)] [] := by
    intro i1 n
    induction n with
    | zero => intro i2 Mb h; exact False.elim h
    | succ n hB21 =>
      intro i2 Mb h
      replace h : wp_X7_when_l21 K i1 (wp_X7_when_L21 K i1 n) i2 Mb := h
      delta wp_X7_when_l21 at h
      refine j_iload_n X 2 rfl rfl dX7_when_21 ?_
      refine j_bipush X (v := 60) (by decide) dX7_when_22 ?_
      refine j_icmp_gt X 58 (by decide) dX7_when_24 (fun q_2101 => ?_) (fun q_2101 => ?_)
      · replace h := h.1 q_2101
        refine j_aload_n X 0 rfl rfl dX7_when_58 ?_
        refine j_ldc X (v := (-1000000002)) aw_560 dX7_when_59 ?_
        refine j_callVI X (nn := 1) (As := [.int (-1000000002)]) (st := []) (ci := 7) cl_0.1 (wE_7 _ cl_0.2) rfl aw_117 aw_118 (x_X7_refuse l D y ad (-1000000002) _ _ h) aw_116 aw_119 aw_2 (by decide +kernel) ⟨Nat.le_of_ble_eq_true rfl, Nat.le_of_ble_eq_true rfl⟩ rfl (Nat.le_of_ble_eq_true rfl) ⟨Nat.le_of_ble_eq_true rfl, Nat.le_of_ble_eq_true rfl⟩ dX7_when_61 ?_
        intro r2102 M2102 h
        exact j_iret X hr hlocks dX7_when_64 h
      · replace h := h.2 q_2101
        refine j_aload_n X 0 rfl rfl dX7_when_27 ?_
        refine j_get X cl_0.1 (wE_7 _ cl_0.2) rfl awF7 2 (by decide) aw_21 rfl (v := .ref (ad 49)) rfl dX7_when_28 ?_
        refine j_getN X cl_49.1 (wE_0 _ cl_49.2) rfl awF0 2 (by decide) (List.mem_of_getElem? (i := 14) rfl) rfl (v := .ref (ad 50)) rfl dX7_when_31 ?_
        refine j_iload_n X 1 rfl rfl dX7_when_34 ?_
        obtain ⟨hi_2103, h⟩ := h
        refine j_aald10 X cl_50.1 cl_50.2 hi_2103 dX7_when_35 ?_
        refine j_eqr (v := (51 + i1.toNatClampNeg)) (re_50 hi_2103) ?_
        have hk_2104 := rc_50 hi_2103
        refine j_getN X hk_2104.1 (wE_1 _ hk_2104.2) rfl awF1 6 (by decide) (List.mem_of_getElem? (i := 12) rfl) rfl (v := .int (Mb (51 + i1.toNatClampNeg) 6)) rfl dX7_when_36 ?_
        refine j_if_eq X 44 (by decide) dX7_when_39 (fun q_2105 => ?_) (fun q_2105 => ?_)
        · replace h := h.1 q_2105
          refine j_aload_n X 0 rfl rfl dX7_when_44 ?_
          refine j_get X cl_0.1 (wE_7 _ cl_0.2) rfl awF7 2 (by decide) aw_21 rfl (v := .ref (ad 49)) rfl dX7_when_45 ?_
          refine j_iconst X (v := 0) (by decide) dX7_when_48 ?_
          refine j_callVNV X (nn := 1) (As := [.int 0]) (st := []) (ci := 0) cl_49.1 (wE_0 _ cl_49.2) rfl aw_439 aw_440 (x_X0_passDay l D y ad 49 0 cl_49 _ _ h) (List.mem_of_getElem? (i := 27) rfl) aw_441 aw_20 (by decide +kernel) ⟨Nat.le_of_ble_eq_true rfl, Nat.le_of_ble_eq_true rfl⟩ rfl (Nat.le_of_ble_eq_true rfl) ⟨Nat.le_of_ble_eq_true rfl, Nat.le_of_ble_eq_true rfl⟩ dX7_when_49 ?_
          intro M2106 h
          refine j_iinc X (v := (i2 + 1)) 2 [(2, .int (i2 + 1)), (0, .ref (ad 0)), (1, .int i1)] rfl rfl (by decide) rfl dX7_when_52 ?_
          refine j_goto X 21 (by decide) dX7_when_55 ?_
          refine j_lv (lv1 := [(0, .ref (ad 0)), (1, .int i1), (2, .int (i2 + 1))]) [1, 2, 0] rfl ?_
          exact hB21 _ _ h
        · replace h := h.2 q_2105
          refine j_iload_n X 2 rfl rfl dX7_when_42 ?_
          exact j_iret X hr hlocks dX7_when_43 h
  delta wp_X7_when at h
  refine j_lv (lv1 := [(0, .ref (ad 0)), (1, .int i1)]) [0, 1] rfl ?_
  refine j_aload_n X 0 rfl rfl dX7_when_0 ?_
  refine j_iload_n X 1 rfl rfl dX7_when_1 ?_
  refine j_callVI X (nn := 1) (As := [.int i1]) (st := []) (ci := 7) cl_0.1 (wE_7 _ cl_0.2) rfl aw_191 aw_192 (x_X7_isQuarrel l D y ad i1 _ _ h) aw_190 aw_193 aw_2 (by decide +kernel) ⟨Nat.le_of_ble_eq_true rfl, Nat.le_of_ble_eq_true rfl⟩ rfl (Nat.le_of_ble_eq_true rfl) ⟨Nat.le_of_ble_eq_true rfl, Nat.le_of_ble_eq_true rfl⟩ dX7_when_2 ?_
  intro r1 M1 h
  refine j_if_ne X 15 (by decide) dX7_when_5 (fun q_2 => ?_) (fun q_2 => ?_)
  · replace h := h.1 q_2
    refine j_aload_n X 0 rfl rfl dX7_when_15 ?_
    refine j_callVV X (nn := 0) (As := []) (st := []) (ci := 7) cl_0.1 (wE_7 _ cl_0.2) rfl aw_534 aw_535 (x_X7_think l D y ad  _ _ h) aw_533 aw_536 aw_2 (by decide +kernel) ⟨Nat.le_of_ble_eq_true rfl, Nat.le_of_ble_eq_true rfl⟩ rfl (Nat.le_of_ble_eq_true rfl) ⟨Nat.le_of_ble_eq_true rfl, Nat.le_of_ble_eq_true rfl⟩ dX7_when_16 ?_
    intro M3 h
    refine j_iconst X (v := 0) (by decide) dX7_when_19 ?_
    refine j_istore_n X [(2, .int 0), (0, .ref (ad 0)), (1, .int i1)] rfl (by decide) rfl dX7_when_20 ?_
    refine j_lv (lv1 := [(0, .ref (ad 0)), (1, .int i1), (2, .int 0)]) [1, 2, 0] rfl ?_
    obtain ⟨n21, h⟩ := h
    exact hL21 _   n21 _ _ h
  · replace h := h.2 q_2
    refine j_aload_n X 0 rfl rfl dX7_when_8 ?_
    refine j_ldc X (v := (-1000000001)) aw_108 dX7_when_9 ?_
    refine j_callVI X (nn := 1) (As := [.int (-1000000001)]) (st := []) (ci := 7) cl_0.1 (wE_7 _ cl_0.2) rfl aw_117 aw_118 (x_X7_refuse l D y ad (-1000000001) _ _ h) aw_116 aw_119 aw_2 (by decide +kernel) ⟨Nat.le_of_ble_eq_true rfl, Nat.le_of_ble_eq_true rfl⟩ rfl (Nat.le_of_ble_eq_true rfl) ⟨Nat.le_of_ble_eq_true rfl, Nat.le_of_ble_eq_true rfl⟩ dX7_when_11 ?_
    intro r4 M4 h
    exact j_iret X hr hlocks dX7_when_14 h
theorem dX7_ended_0 : decode cX7_ended 0 = .ok (.iload_n 1, 1) := dk_27 (by decide +kernel)
theorem dX7_ended_1 : decode cX7_ended 1 = .ok (.iconst 0, 1) := dk_3 (by decide +kernel)
theorem dX7_ended_2 : decode cX7_ended 2 = .ok (.bipush 60, 2) := dk_16 (by decide +kernel)
theorem dX7_ended_4 : decode cX7_ended 4 = .ok (.invokestatic 60, 3) := dk_184 (by decide +kernel)
theorem dX7_ended_7 : decode cX7_ended 7 = .ok (.ifCond .ne 10, 3) := dk_154 (by decide +kernel)
theorem dX7_ended_17 : decode cX7_ended 17 = .ok (.aload_n 0, 1) := dk_42 (by decide +kernel)
theorem dX7_ended_18 : decode cX7_ended 18 = .ok (.invokevirtual 191, 3) := dk_182 (by decide +kernel)
theorem dX7_ended_21 : decode cX7_ended 21 = .ok (.aload_n 0, 1) := dk_42 (by decide +kernel)
theorem dX7_ended_22 : decode cX7_ended 22 = .ok (.iload_n 1, 1) := dk_27 (by decide +kernel)
theorem dX7_ended_23 : decode cX7_ended 23 = .ok (.invokevirtual 194, 3) := dk_182 (by decide +kernel)
theorem dX7_ended_26 : decode cX7_ended 26 = .ok (.aload_n 0, 1) := dk_42 (by decide +kernel)
theorem dX7_ended_27 : decode cX7_ended 27 = .ok (.getfield 31, 3) := dk_180 (by decide +kernel)
theorem dX7_ended_30 : decode cX7_ended 30 = .ok (.invokevirtual 198, 3) := dk_182 (by decide +kernel)
theorem dX7_ended_33 : decode cX7_ended 33 = .ok (.ireturn, 1) := dk_172 (by decide +kernel)
theorem dX7_ended_10 : decode cX7_ended 10 = .ok (.aload_n 0, 1) := dk_42 (by decide +kernel)
theorem dX7_ended_11 : decode cX7_ended 11 = .ok (.ldc 68, 2) := dk_18 (by decide +kernel)
theorem dX7_ended_13 : decode cX7_ended 13 = .ok (.invokevirtual 69, 3) := dk_182 (by decide +kernel)
theorem dX7_ended_16 : decode cX7_ended 16 = .ok (.ireturn, 1) := dk_172 (by decide +kernel)
set_option maxRecDepth 100000 in
set_option maxHeartbeats 8000000 in
theorem x_X7_ended (l : Launch) (D : va_G) (y : wY) (ad : Nat → Nat) (i1 : Int32) (M : Mem) (K : Int32 → Mem → Prop) (h : wp_X7_ended i1 M K) : MI l D y ad yX7_ended (Cond.code yX7_ended cX7_ended 2 (some .int)) 7 M [.ref (ad 0), .int i1] K := by
  refine MI_of (by decide) (Nat.le_of_ble_eq_true rfl) ?_
  intro p e s m args below meth c X hr hlocks
  delta wp_X7_ended at h
  refine j_lv (lv1 := [(0, .ref (ad 0)), (1, .int i1)]) [0, 1] rfl ?_
  refine j_iload_n X 1 rfl rfl dX7_ended_0 ?_
  refine j_iconst X (v := 0) (by decide) dX7_ended_1 ?_
  refine j_bipush X (v := 60) (by decide) dX7_ended_2 ?_
  refine j_callSI X (nn := 3) (As := [.int i1, .int 0, .int 60]) (st := []) aw_110 (x_X7_isWithin l D y ad i1 0 60 _ _ h) aw_109 aw_111 aw_2 (by decide +kernel) ⟨Nat.le_of_ble_eq_true rfl, Nat.le_of_ble_eq_true rfl⟩ rfl (Nat.le_of_ble_eq_true rfl) ⟨Nat.le_of_ble_eq_true rfl, Nat.le_of_ble_eq_true rfl⟩ dX7_ended_4 ?_
  intro r1 M1 h
  refine j_if_ne X 17 (by decide) dX7_ended_7 (fun q_2 => ?_) (fun q_2 => ?_)
  · replace h := h.1 q_2
    refine j_aload_n X 0 rfl rfl dX7_ended_17 ?_
    refine j_callVV X (nn := 0) (As := []) (st := []) (ci := 7) cl_0.1 (wE_7 _ cl_0.2) rfl aw_534 aw_535 (x_X7_think l D y ad  _ _ h) aw_533 aw_536 aw_2 (by decide +kernel) ⟨Nat.le_of_ble_eq_true rfl, Nat.le_of_ble_eq_true rfl⟩ rfl (Nat.le_of_ble_eq_true rfl) ⟨Nat.le_of_ble_eq_true rfl, Nat.le_of_ble_eq_true rfl⟩ dX7_ended_18 ?_
    intro M3 h
    refine j_aload_n X 0 rfl rfl dX7_ended_21 ?_
    refine j_iload_n X 1 rfl rfl dX7_ended_22 ?_
    refine j_callVV X (nn := 1) (As := [.int i1]) (st := []) (ci := 7) cl_0.1 (wE_7 _ cl_0.2) rfl aw_545 aw_546 (x_X7_thinkDays l D y ad i1 _ _ h) aw_544 aw_547 aw_2 (by decide +kernel) ⟨Nat.le_of_ble_eq_true rfl, Nat.le_of_ble_eq_true rfl⟩ rfl (Nat.le_of_ble_eq_true rfl) ⟨Nat.le_of_ble_eq_true rfl, Nat.le_of_ble_eq_true rfl⟩ dX7_ended_23 ?_
    intro M4 h
    refine j_aload_n X 0 rfl rfl dX7_ended_26 ?_
    refine j_get X cl_0.1 (wE_7 _ cl_0.2) rfl awF7 2 (by decide) aw_21 rfl (v := .ref (ad 49)) rfl dX7_ended_27 ?_
    refine j_callVNI X (nn := 0) (As := []) (st := []) (ci := 0) cl_49.1 (wE_0 _ cl_49.2) rfl aw_466 aw_467 (x_X0_setEnded l D y ad 49 cl_49 _ _ h) (List.mem_of_getElem? (i := 35) rfl) aw_468 aw_20 (by decide +kernel) ⟨Nat.le_of_ble_eq_true rfl, Nat.le_of_ble_eq_true rfl⟩ rfl (Nat.le_of_ble_eq_true rfl) ⟨Nat.le_of_ble_eq_true rfl, Nat.le_of_ble_eq_true rfl⟩ dX7_ended_30 ?_
    intro r5 M5 h
    exact j_iret X hr hlocks dX7_ended_33 h
  · replace h := h.2 q_2
    refine j_aload_n X 0 rfl rfl dX7_ended_10 ?_
    refine j_ldc X (v := (-1000000001)) aw_108 dX7_ended_11 ?_
    refine j_callVI X (nn := 1) (As := [.int (-1000000001)]) (st := []) (ci := 7) cl_0.1 (wE_7 _ cl_0.2) rfl aw_117 aw_118 (x_X7_refuse l D y ad (-1000000001) _ _ h) aw_116 aw_119 aw_2 (by decide +kernel) ⟨Nat.le_of_ble_eq_true rfl, Nat.le_of_ble_eq_true rfl⟩ rfl (Nat.le_of_ble_eq_true rfl) ⟨Nat.le_of_ble_eq_true rfl, Nat.le_of_ble_eq_true rfl⟩ dX7_ended_13 ?_
    intro r6 M6 h
    exact j_iret X hr hlocks dX7_ended_16 h
theorem dX7_start_34 : decode cX7_start 34 = .ok (.iload 5, 2) := dk_21 (by decide +kernel)
theorem dX7_start_36 : decode cX7_start 36 = .ok (.bipush 10, 2) := dk_16 (by decide +kernel)
theorem dX7_start_38 : decode cX7_start 38 = .ok (.if_icmp .ge 51, 3) := dk_162 (by decide +kernel)
theorem dX7_start_89 : decode cX7_start 89 = .ok (.iload_n 2, 1) := dk_28 (by decide +kernel)
theorem dX7_start_90 : decode cX7_start 90 = .ok (.ifCond .ne 7, 3) := dk_154 (by decide +kernel)
theorem dX7_start_97 : decode cX7_start 97 = .ok (.iload 4, 2) := dk_21 (by decide +kernel)
theorem dX7_start_99 : decode cX7_start 99 = .ok (.ireturn, 1) := dk_172 (by decide +kernel)
theorem dX7_start_93 : decode cX7_start 93 = .ok (.iload_n 3, 1) := dk_29 (by decide +kernel)
theorem dX7_start_94 : decode cX7_start 94 = .ok (.goto 5, 3) := dk_167 (by decide +kernel)
theorem dX7_start_41 : decode cX7_start 41 = .ok (.aload_n 0, 1) := dk_42 (by decide +kernel)
theorem dX7_start_42 : decode cX7_start 42 = .ok (.invokevirtual 191, 3) := dk_182 (by decide +kernel)
theorem dX7_start_45 : decode cX7_start 45 = .ok (.aload_n 0, 1) := dk_42 (by decide +kernel)
theorem dX7_start_46 : decode cX7_start 46 = .ok (.getfield 31, 3) := dk_180 (by decide +kernel)
theorem dX7_start_49 : decode cX7_start 49 = .ok (.iload 5, 2) := dk_21 (by decide +kernel)
theorem dX7_start_51 : decode cX7_start 51 = .ok (.putfield 201, 3) := dk_181 (by decide +kernel)
theorem dX7_start_54 : decode cX7_start 54 = .ok (.aload_n 0, 1) := dk_42 (by decide +kernel)
theorem dX7_start_55 : decode cX7_start 55 = .ok (.iload_n 1, 1) := dk_27 (by decide +kernel)
theorem dX7_start_56 : decode cX7_start 56 = .ok (.invokevirtual 194, 3) := dk_182 (by decide +kernel)
theorem dX7_start_59 : decode cX7_start 59 = .ok (.aload_n 0, 1) := dk_42 (by decide +kernel)
theorem dX7_start_60 : decode cX7_start 60 = .ok (.getfield 31, 3) := dk_180 (by decide +kernel)
theorem dX7_start_63 : decode cX7_start 63 = .ok (.invokevirtual 182, 3) := dk_182 (by decide +kernel)
theorem dX7_start_66 : decode cX7_start 66 = .ok (.iload 4, 2) := dk_21 (by decide +kernel)
theorem dX7_start_68 : decode cX7_start 68 = .ok (.if_icmp .le 15, 3) := dk_164 (by decide +kernel)
theorem dX7_start_83 : decode cX7_start 83 = .ok (.iinc 5 1, 3) := dk_132 (by decide +kernel)
theorem dX7_start_86 : decode cX7_start 86 = .ok (.goto (-52), 3) := dk_167 (by decide +kernel)
theorem dX7_start_71 : decode cX7_start 71 = .ok (.iload 5, 2) := dk_21 (by decide +kernel)
theorem dX7_start_73 : decode cX7_start 73 = .ok (.istore_n 3, 1) := dk_62 (by decide +kernel)
theorem dX7_start_74 : decode cX7_start 74 = .ok (.aload_n 0, 1) := dk_42 (by decide +kernel)
theorem dX7_start_75 : decode cX7_start 75 = .ok (.getfield 31, 3) := dk_180 (by decide +kernel)
theorem dX7_start_78 : decode cX7_start 78 = .ok (.invokevirtual 182, 3) := dk_182 (by decide +kernel)
theorem dX7_start_81 : decode cX7_start 81 = .ok (.istore 4, 2) := dk_54 (by decide +kernel)
theorem dX7_start_0 : decode cX7_start 0 = .ok (.iload_n 1, 1) := dk_27 (by decide +kernel)
theorem dX7_start_1 : decode cX7_start 1 = .ok (.iconst 0, 1) := dk_3 (by decide +kernel)
theorem dX7_start_2 : decode cX7_start 2 = .ok (.bipush 60, 2) := dk_16 (by decide +kernel)
theorem dX7_start_4 : decode cX7_start 4 = .ok (.invokestatic 60, 3) := dk_184 (by decide +kernel)
theorem dX7_start_7 : decode cX7_start 7 = .ok (.ifCond .eq 12, 3) := dk_153 (by decide +kernel)
theorem dX7_start_19 : decode cX7_start 19 = .ok (.aload_n 0, 1) := dk_42 (by decide +kernel)
theorem dX7_start_20 : decode cX7_start 20 = .ok (.ldc 68, 2) := dk_18 (by decide +kernel)
theorem dX7_start_22 : decode cX7_start 22 = .ok (.invokevirtual 69, 3) := dk_182 (by decide +kernel)
theorem dX7_start_25 : decode cX7_start 25 = .ok (.ireturn, 1) := dk_172 (by decide +kernel)
theorem dX7_start_10 : decode cX7_start 10 = .ok (.iload_n 2, 1) := dk_28 (by decide +kernel)
theorem dX7_start_11 : decode cX7_start 11 = .ok (.iconst 0, 1) := dk_3 (by decide +kernel)
theorem dX7_start_12 : decode cX7_start 12 = .ok (.iconst 1, 1) := dk_4 (by decide +kernel)
theorem dX7_start_13 : decode cX7_start 13 = .ok (.invokestatic 60, 3) := dk_184 (by decide +kernel)
theorem dX7_start_16 : decode cX7_start 16 = .ok (.ifCond .ne 10, 3) := dk_154 (by decide +kernel)
theorem dX7_start_26 : decode cX7_start 26 = .ok (.iconst 0, 1) := dk_3 (by decide +kernel)
theorem dX7_start_27 : decode cX7_start 27 = .ok (.istore_n 3, 1) := dk_62 (by decide +kernel)
theorem dX7_start_28 : decode cX7_start 28 = .ok (.iconst (-1), 1) := dk_2 (by decide +kernel)
theorem dX7_start_29 : decode cX7_start 29 = .ok (.istore 4, 2) := dk_54 (by decide +kernel)
theorem dX7_start_31 : decode cX7_start 31 = .ok (.iconst 0, 1) := dk_3 (by decide +kernel)
theorem dX7_start_32 : decode cX7_start 32 = .ok (.istore 5, 2) := dk_54 (by decide +kernel)
set_option maxRecDepth 100000 in
set_option maxHeartbeats 8000000 in
theorem x_X7_start (l : Launch) (D : va_G) (y : wY) (ad : Nat → Nat) (i1 : Int32) (i2 : Int32) (M : Mem) (K : Int32 → Mem → Prop) (h : wp_X7_start i1 i2 M K) : MI l D y ad yX7_start (Cond.code yX7_start cX7_start 6 (some .int)) 7 M [.ref (ad 0), .int i1, .int i2] K := by
  refine MI_of (by decide) (Nat.le_of_ble_eq_true rfl) ?_
  intro p e s m args below meth c X hr hlocks
  have hL34 : ∀ (i1 : Int32) (i2 : Int32) (n : Nat) (i3 : Int32) (i4 : Int32) (i5 : Int32) (Mb : Mem), wp_X7_start_L34 K i1 i2 n i3 i4 i5 Mb → J p l e (rmN 7) s m args below meth c 0 0 (QI K D y ad M s args below) D y ad (va_A (PL y ad M) s.heap.size) 6 Mb 34 [(0, .ref (ad 0)), (1, .int i1), (2, .int i2), (3, .int i3), (4, .int i4), (5, .int i5)] [] := by
    intro i1 i2 n
    induction n with
    | zero => intro i3 i4 i5 Mb h; exact False.elim h
    | succ n hB34 =>
      intro i3 i4 i5 Mb h
      replace h : wp_X7_start_l34 K i1 i2 (wp_X7_start_L34 K i1 i2 n) i3 i4 i5 Mb := h
      delta wp_X7_start_l34 at h
      refine j_iload X 5 rfl dX7_start_34 ?_
      refine j_bipush X (v := 10) (by decide) dX7_start_36 ?_
      refine j_icmp_ge X 89 (by decide) dX7_start_38 (fun q_3401 => ?_) (fun q_3401 => ?_)
      · replace h := h.1 q_3401
        refine j_iload_n X 2 rfl rfl dX7_start_89 ?_
        refine j_if_ne X 97 (by decide) dX7_start_90 (fun q_3402 => ?_) (fun q_3402 => ?_)
        · replace h := h.1 q_3402
          refine j_iload X 4 rfl dX7_start_97 ?_
          exact j_iret X hr hlocks dX7_start_99 h
        · replace h := h.2 q_3402
          refine j_iload_n X 3 rfl rfl dX7_start_93 ?_
          refine j_goto X 99 (by decide) dX7_start_94 ?_
          exact j_iret X hr hlocks dX7_start_99 h
      · replace h := h.2 q_3401
        refine j_aload_n X 0 rfl rfl dX7_start_41 ?_
        refine j_callVV X (nn := 0) (As := []) (st := []) (ci := 7) cl_0.1 (wE_7 _ cl_0.2) rfl aw_534 aw_535 (x_X7_think l D y ad  _ _ h) aw_533 aw_536 aw_2 (by decide +kernel) ⟨Nat.le_of_ble_eq_true rfl, Nat.le_of_ble_eq_true rfl⟩ rfl (Nat.le_of_ble_eq_true rfl) ⟨Nat.le_of_ble_eq_true rfl, Nat.le_of_ble_eq_true rfl⟩ dX7_start_42 ?_
        intro M3403 h
        refine j_aload_n X 0 rfl rfl dX7_start_45 ?_
        refine j_get X cl_0.1 (wE_7 _ cl_0.2) rfl awF7 2 (by decide) aw_21 rfl (v := .ref (ad 49)) rfl dX7_start_46 ?_
        refine j_iload X 5 rfl dX7_start_49 ?_
        refine j_putN X (up M3403 49 4 i5) up_o cl_49.1 (wE_0 _ cl_49.2) rfl awF0 4 (by decide) (wP_0_4 _ _ cl_49.2) tyX0 tyX0_ok nmX0 rfl (ty := .int) (by decide +kernel) rfl rfl (Nat.le_of_ble_eq_true rfl) (List.mem_of_getElem? (i := 16) rfl) rfl dX7_start_51 ?_
        refine j_aload_n X 0 rfl rfl dX7_start_54 ?_
        refine j_iload_n X 1 rfl rfl dX7_start_55 ?_
        refine j_callVV X (nn := 1) (As := [.int i1]) (st := []) (ci := 7) cl_0.1 (wE_7 _ cl_0.2) rfl aw_545 aw_546 (x_X7_thinkDays l D y ad i1 _ _ h) aw_544 aw_547 aw_2 (by decide +kernel) ⟨Nat.le_of_ble_eq_true rfl, Nat.le_of_ble_eq_true rfl⟩ rfl (Nat.le_of_ble_eq_true rfl) ⟨Nat.le_of_ble_eq_true rfl, Nat.le_of_ble_eq_true rfl⟩ dX7_start_56 ?_
        intro M3404 h
        refine j_aload_n X 0 rfl rfl dX7_start_59 ?_
        refine j_get X cl_0.1 (wE_7 _ cl_0.2) rfl awF7 2 (by decide) aw_21 rfl (v := .ref (ad 49)) rfl dX7_start_60 ?_
        refine j_callVNI X (nn := 0) (As := []) (st := []) (ci := 0) cl_49.1 (wE_0 _ cl_49.2) rfl aw_462 aw_463 (x_X0_endedMany l D y ad 49 cl_49 _ _ h) (List.mem_of_getElem? (i := 31) rfl) aw_464 aw_20 (by decide +kernel) ⟨Nat.le_of_ble_eq_true rfl, Nat.le_of_ble_eq_true rfl⟩ rfl (Nat.le_of_ble_eq_true rfl) ⟨Nat.le_of_ble_eq_true rfl, Nat.le_of_ble_eq_true rfl⟩ dX7_start_63 ?_
        intro r3405 M3405 h
        refine j_iload X 4 rfl dX7_start_66 ?_
        refine j_icmp_le X 83 (by decide) dX7_start_68 (fun q_3406 => ?_) (fun q_3406 => ?_)
        · replace h := h.1 q_3406
          refine j_iinc X (v := (i5 + 1)) 5 [(5, .int (i5 + 1)), (0, .ref (ad 0)), (1, .int i1), (2, .int i2), (3, .int i3), (4, .int i4)] rfl rfl (by decide) rfl dX7_start_83 ?_
          refine j_goto X 34 (by decide) dX7_start_86 ?_
          refine j_lv (lv1 := [(0, .ref (ad 0)), (1, .int i1), (2, .int i2), (3, .int i3), (4, .int i4), (5, .int (i5 + 1))]) [1, 2, 3, 4, 5, 0] rfl ?_
          exact hB34 _ _ _ _ h
        · replace h := h.2 q_3406
          refine j_iload X 5 rfl dX7_start_71 ?_
          refine j_istore_n X [(3, .int i5), (0, .ref (ad 0)), (1, .int i1), (2, .int i2), (4, .int i4), (5, .int i5)] rfl (by decide) rfl dX7_start_73 ?_
          refine j_aload_n X 1 rfl rfl dX7_start_74 ?_
          refine j_get X cl_0.1 (wE_7 _ cl_0.2) rfl awF7 2 (by decide) aw_21 rfl (v := .ref (ad 49)) rfl dX7_start_75 ?_
          refine j_callVNI X (nn := 0) (As := []) (st := []) (ci := 0) cl_49.1 (wE_0 _ cl_49.2) rfl aw_462 aw_463 (x_X0_endedMany l D y ad 49 cl_49 _ _ h) (List.mem_of_getElem? (i := 31) rfl) aw_464 aw_20 (by decide +kernel) ⟨Nat.le_of_ble_eq_true rfl, Nat.le_of_ble_eq_true rfl⟩ rfl (Nat.le_of_ble_eq_true rfl) ⟨Nat.le_of_ble_eq_true rfl, Nat.le_of_ble_eq_true rfl⟩ dX7_start_78 ?_
          intro r3407 M3407 h
          refine j_istore X [(4, .int r3407), (3, .int i5), (0, .ref (ad 0)), (1, .int i1), (2, .int i2), (5, .int i5)] (by decide) rfl dX7_start_81 ?_
          refine j_iinc X (v := (i5 + 1)) 5 [(5, .int (i5 + 1)), (4, .int r3407), (3, .int i5), (0, .ref (ad 0)), (1, .int i1), (2, .int i2)] rfl rfl (by decide) rfl dX7_start_83 ?_
          refine j_goto X 34 (by decide) dX7_start_86 ?_
          refine j_lv (lv1 := [(0, .ref (ad 0)), (1, .int i1), (2, .int i2), (3, .int i5), (4, .int r3407), (5, .int (i5 + 1))]) [3, 4, 5, 2, 1, 0] rfl ?_
          exact hB34 _ _ _ _ h
  delta wp_X7_start at h
  refine j_lv (lv1 := [(0, .ref (ad 0)), (1, .int i1), (2, .int i2)]) [0, 1, 2] rfl ?_
  refine j_iload_n X 1 rfl rfl dX7_start_0 ?_
  refine j_iconst X (v := 0) (by decide) dX7_start_1 ?_
  refine j_bipush X (v := 60) (by decide) dX7_start_2 ?_
  refine j_callSI X (nn := 3) (As := [.int i1, .int 0, .int 60]) (st := []) aw_110 (x_X7_isWithin l D y ad i1 0 60 _ _ h) aw_109 aw_111 aw_2 (by decide +kernel) ⟨Nat.le_of_ble_eq_true rfl, Nat.le_of_ble_eq_true rfl⟩ rfl (Nat.le_of_ble_eq_true rfl) ⟨Nat.le_of_ble_eq_true rfl, Nat.le_of_ble_eq_true rfl⟩ dX7_start_4 ?_
  intro r1 M1 h
  refine j_if_eq X 19 (by decide) dX7_start_7 (fun q_2 => ?_) (fun q_2 => ?_)
  · replace h := h.1 q_2
    refine j_aload_n X 0 rfl rfl dX7_start_19 ?_
    refine j_ldc X (v := (-1000000001)) aw_108 dX7_start_20 ?_
    refine j_callVI X (nn := 1) (As := [.int (-1000000001)]) (st := []) (ci := 7) cl_0.1 (wE_7 _ cl_0.2) rfl aw_117 aw_118 (x_X7_refuse l D y ad (-1000000001) _ _ h) aw_116 aw_119 aw_2 (by decide +kernel) ⟨Nat.le_of_ble_eq_true rfl, Nat.le_of_ble_eq_true rfl⟩ rfl (Nat.le_of_ble_eq_true rfl) ⟨Nat.le_of_ble_eq_true rfl, Nat.le_of_ble_eq_true rfl⟩ dX7_start_22 ?_
    intro r3 M3 h
    exact j_iret X hr hlocks dX7_start_25 h
  · replace h := h.2 q_2
    refine j_iload_n X 2 rfl rfl dX7_start_10 ?_
    refine j_iconst X (v := 0) (by decide) dX7_start_11 ?_
    refine j_iconst X (v := 1) (by decide) dX7_start_12 ?_
    refine j_callSI X (nn := 3) (As := [.int i2, .int 0, .int 1]) (st := []) aw_110 (x_X7_isWithin l D y ad i2 0 1 _ _ h) aw_109 aw_111 aw_2 (by decide +kernel) ⟨Nat.le_of_ble_eq_true rfl, Nat.le_of_ble_eq_true rfl⟩ rfl (Nat.le_of_ble_eq_true rfl) ⟨Nat.le_of_ble_eq_true rfl, Nat.le_of_ble_eq_true rfl⟩ dX7_start_13 ?_
    intro r4 M4 h
    refine j_if_ne X 26 (by decide) dX7_start_16 (fun q_5 => ?_) (fun q_5 => ?_)
    · replace h := h.1 q_5
      refine j_iconst X (v := 0) (by decide) dX7_start_26 ?_
      refine j_istore_n X [(3, .int 0), (0, .ref (ad 0)), (1, .int i1), (2, .int i2)] rfl (by decide) rfl dX7_start_27 ?_
      refine j_iconst X (v := (-1)) (by decide) dX7_start_28 ?_
      refine j_istore X [(4, .int (-1)), (3, .int 0), (0, .ref (ad 0)), (1, .int i1), (2, .int i2)] (by decide) rfl dX7_start_29 ?_
      refine j_iconst X (v := 0) (by decide) dX7_start_31 ?_
      refine j_istore X [(5, .int 0), (4, .int (-1)), (3, .int 0), (0, .ref (ad 0)), (1, .int i1), (2, .int i2)] (by decide) rfl dX7_start_32 ?_
      refine j_lv (lv1 := [(0, .ref (ad 0)), (1, .int i1), (2, .int i2), (3, .int 0), (4, .int (-1)), (5, .int 0)]) [3, 4, 5, 2, 1, 0] rfl ?_
      obtain ⟨n34, h⟩ := h
      exact hL34 _ _   n34 _ _ _ _ h
    · replace h := h.2 q_5
      refine j_aload_n X 0 rfl rfl dX7_start_19 ?_
      refine j_ldc X (v := (-1000000001)) aw_108 dX7_start_20 ?_
      refine j_callVI X (nn := 1) (As := [.int (-1000000001)]) (st := []) (ci := 7) cl_0.1 (wE_7 _ cl_0.2) rfl aw_117 aw_118 (x_X7_refuse l D y ad (-1000000001) _ _ h) aw_116 aw_119 aw_2 (by decide +kernel) ⟨Nat.le_of_ble_eq_true rfl, Nat.le_of_ble_eq_true rfl⟩ rfl (Nat.le_of_ble_eq_true rfl) ⟨Nat.le_of_ble_eq_true rfl, Nat.le_of_ble_eq_true rfl⟩ dX7_start_22 ?_
      intro r6 M6 h
      exact j_iret X hr hlocks dX7_start_25 h
theorem dX7_pace_34 : decode cX7_pace 34 = .ok (.iload 5, 2) := dk_21 (by decide +kernel)
theorem dX7_pace_36 : decode cX7_pace 36 = .ok (.bipush 10, 2) := dk_16 (by decide +kernel)
theorem dX7_pace_38 : decode cX7_pace 38 = .ok (.if_icmp .ge 51, 3) := dk_162 (by decide +kernel)
theorem dX7_pace_89 : decode cX7_pace 89 = .ok (.iload_n 2, 1) := dk_28 (by decide +kernel)
theorem dX7_pace_90 : decode cX7_pace 90 = .ok (.ifCond .ne 7, 3) := dk_154 (by decide +kernel)
theorem dX7_pace_97 : decode cX7_pace 97 = .ok (.iload 4, 2) := dk_21 (by decide +kernel)
theorem dX7_pace_99 : decode cX7_pace 99 = .ok (.ireturn, 1) := dk_172 (by decide +kernel)
theorem dX7_pace_93 : decode cX7_pace 93 = .ok (.iload_n 3, 1) := dk_29 (by decide +kernel)
theorem dX7_pace_94 : decode cX7_pace 94 = .ok (.goto 5, 3) := dk_167 (by decide +kernel)
theorem dX7_pace_41 : decode cX7_pace 41 = .ok (.aload_n 0, 1) := dk_42 (by decide +kernel)
theorem dX7_pace_42 : decode cX7_pace 42 = .ok (.invokevirtual 191, 3) := dk_182 (by decide +kernel)
theorem dX7_pace_45 : decode cX7_pace 45 = .ok (.aload_n 0, 1) := dk_42 (by decide +kernel)
theorem dX7_pace_46 : decode cX7_pace 46 = .ok (.getfield 31, 3) := dk_180 (by decide +kernel)
theorem dX7_pace_49 : decode cX7_pace 49 = .ok (.iload 5, 2) := dk_21 (by decide +kernel)
theorem dX7_pace_51 : decode cX7_pace 51 = .ok (.putfield 188, 3) := dk_181 (by decide +kernel)
theorem dX7_pace_54 : decode cX7_pace 54 = .ok (.aload_n 0, 1) := dk_42 (by decide +kernel)
theorem dX7_pace_55 : decode cX7_pace 55 = .ok (.iload_n 1, 1) := dk_27 (by decide +kernel)
theorem dX7_pace_56 : decode cX7_pace 56 = .ok (.invokevirtual 194, 3) := dk_182 (by decide +kernel)
theorem dX7_pace_59 : decode cX7_pace 59 = .ok (.aload_n 0, 1) := dk_42 (by decide +kernel)
theorem dX7_pace_60 : decode cX7_pace 60 = .ok (.getfield 31, 3) := dk_180 (by decide +kernel)
theorem dX7_pace_63 : decode cX7_pace 63 = .ok (.invokevirtual 182, 3) := dk_182 (by decide +kernel)
theorem dX7_pace_66 : decode cX7_pace 66 = .ok (.iload 4, 2) := dk_21 (by decide +kernel)
theorem dX7_pace_68 : decode cX7_pace 68 = .ok (.if_icmp .le 15, 3) := dk_164 (by decide +kernel)
theorem dX7_pace_83 : decode cX7_pace 83 = .ok (.iinc 5 1, 3) := dk_132 (by decide +kernel)
theorem dX7_pace_86 : decode cX7_pace 86 = .ok (.goto (-52), 3) := dk_167 (by decide +kernel)
theorem dX7_pace_71 : decode cX7_pace 71 = .ok (.iload 5, 2) := dk_21 (by decide +kernel)
theorem dX7_pace_73 : decode cX7_pace 73 = .ok (.istore_n 3, 1) := dk_62 (by decide +kernel)
theorem dX7_pace_74 : decode cX7_pace 74 = .ok (.aload_n 0, 1) := dk_42 (by decide +kernel)
theorem dX7_pace_75 : decode cX7_pace 75 = .ok (.getfield 31, 3) := dk_180 (by decide +kernel)
theorem dX7_pace_78 : decode cX7_pace 78 = .ok (.invokevirtual 182, 3) := dk_182 (by decide +kernel)
theorem dX7_pace_81 : decode cX7_pace 81 = .ok (.istore 4, 2) := dk_54 (by decide +kernel)
theorem dX7_pace_0 : decode cX7_pace 0 = .ok (.iload_n 1, 1) := dk_27 (by decide +kernel)
theorem dX7_pace_1 : decode cX7_pace 1 = .ok (.iconst 0, 1) := dk_3 (by decide +kernel)
theorem dX7_pace_2 : decode cX7_pace 2 = .ok (.bipush 60, 2) := dk_16 (by decide +kernel)
theorem dX7_pace_4 : decode cX7_pace 4 = .ok (.invokestatic 60, 3) := dk_184 (by decide +kernel)
theorem dX7_pace_7 : decode cX7_pace 7 = .ok (.ifCond .eq 12, 3) := dk_153 (by decide +kernel)
theorem dX7_pace_19 : decode cX7_pace 19 = .ok (.aload_n 0, 1) := dk_42 (by decide +kernel)
theorem dX7_pace_20 : decode cX7_pace 20 = .ok (.ldc 68, 2) := dk_18 (by decide +kernel)
theorem dX7_pace_22 : decode cX7_pace 22 = .ok (.invokevirtual 69, 3) := dk_182 (by decide +kernel)
theorem dX7_pace_25 : decode cX7_pace 25 = .ok (.ireturn, 1) := dk_172 (by decide +kernel)
theorem dX7_pace_10 : decode cX7_pace 10 = .ok (.iload_n 2, 1) := dk_28 (by decide +kernel)
theorem dX7_pace_11 : decode cX7_pace 11 = .ok (.iconst 0, 1) := dk_3 (by decide +kernel)
theorem dX7_pace_12 : decode cX7_pace 12 = .ok (.iconst 1, 1) := dk_4 (by decide +kernel)
theorem dX7_pace_13 : decode cX7_pace 13 = .ok (.invokestatic 60, 3) := dk_184 (by decide +kernel)
theorem dX7_pace_16 : decode cX7_pace 16 = .ok (.ifCond .ne 10, 3) := dk_154 (by decide +kernel)
theorem dX7_pace_26 : decode cX7_pace 26 = .ok (.iconst 0, 1) := dk_3 (by decide +kernel)
theorem dX7_pace_27 : decode cX7_pace 27 = .ok (.istore_n 3, 1) := dk_62 (by decide +kernel)
theorem dX7_pace_28 : decode cX7_pace 28 = .ok (.iconst (-1), 1) := dk_2 (by decide +kernel)
theorem dX7_pace_29 : decode cX7_pace 29 = .ok (.istore 4, 2) := dk_54 (by decide +kernel)
theorem dX7_pace_31 : decode cX7_pace 31 = .ok (.iconst 0, 1) := dk_3 (by decide +kernel)
theorem dX7_pace_32 : decode cX7_pace 32 = .ok (.istore 5, 2) := dk_54 (by decide +kernel)
set_option maxRecDepth 100000 in
set_option maxHeartbeats 8000000 in
theorem x_X7_pace (l : Launch) (D : va_G) (y : wY) (ad : Nat → Nat) (i1 : Int32) (i2 : Int32) (M : Mem) (K : Int32 → Mem → Prop) (h : wp_X7_pace i1 i2 M K) : MI l D y ad yX7_pace (Cond.code yX7_pace cX7_pace 6 (some .int)) 7 M [.ref (ad 0), .int i1, .int i2] K := by
  refine MI_of (by decide) (Nat.le_of_ble_eq_true rfl) ?_
  intro p e s m args below meth c X hr hlocks
  have hL34 : ∀ (i1 : Int32) (i2 : Int32) (n : Nat) (i3 : Int32) (i4 : Int32) (i5 : Int32) (Mb : Mem), wp_X7_pace_L34 K i1 i2 n i3 i4 i5 Mb → J p l e (rmN 7) s m args below meth c 0 0 (QI K D y ad M s args below) D y ad (va_A (PL y ad M) s.heap.size) 6 Mb 34 [(0, .ref (ad 0)), (1, .int i1), (2, .int i2), (3, .int i3), (4, .int i4), (5, .int i5)] [] := by
    intro i1 i2 n
    induction n with
    | zero => intro i3 i4 i5 Mb h; exact False.elim h
    | succ n hB34 =>
      intro i3 i4 i5 Mb h
      replace h : wp_X7_pace_l34 K i1 i2 (wp_X7_pace_L34 K i1 i2 n) i3 i4 i5 Mb := h
      delta wp_X7_pace_l34 at h
      refine j_iload X 5 rfl dX7_pace_34 ?_
      refine j_bipush X (v := 10) (by decide) dX7_pace_36 ?_
      refine j_icmp_ge X 89 (by decide) dX7_pace_38 (fun q_3401 => ?_) (fun q_3401 => ?_)
      · replace h := h.1 q_3401
        refine j_iload_n X 2 rfl rfl dX7_pace_89 ?_
        refine j_if_ne X 97 (by decide) dX7_pace_90 (fun q_3402 => ?_) (fun q_3402 => ?_)
        · replace h := h.1 q_3402
          refine j_iload X 4 rfl dX7_pace_97 ?_
          exact j_iret X hr hlocks dX7_pace_99 h
        · replace h := h.2 q_3402
          refine j_iload_n X 3 rfl rfl dX7_pace_93 ?_
          refine j_goto X 99 (by decide) dX7_pace_94 ?_
          exact j_iret X hr hlocks dX7_pace_99 h
      · replace h := h.2 q_3401
        refine j_aload_n X 0 rfl rfl dX7_pace_41 ?_
        refine j_callVV X (nn := 0) (As := []) (st := []) (ci := 7) cl_0.1 (wE_7 _ cl_0.2) rfl aw_534 aw_535 (x_X7_think l D y ad  _ _ h) aw_533 aw_536 aw_2 (by decide +kernel) ⟨Nat.le_of_ble_eq_true rfl, Nat.le_of_ble_eq_true rfl⟩ rfl (Nat.le_of_ble_eq_true rfl) ⟨Nat.le_of_ble_eq_true rfl, Nat.le_of_ble_eq_true rfl⟩ dX7_pace_42 ?_
        intro M3403 h
        refine j_aload_n X 0 rfl rfl dX7_pace_45 ?_
        refine j_get X cl_0.1 (wE_7 _ cl_0.2) rfl awF7 2 (by decide) aw_21 rfl (v := .ref (ad 49)) rfl dX7_pace_46 ?_
        refine j_iload X 5 rfl dX7_pace_49 ?_
        refine j_putN X (up M3403 49 5 i5) up_o cl_49.1 (wE_0 _ cl_49.2) rfl awF0 5 (by decide) (wP_0_5 _ _ cl_49.2) tyX0 tyX0_ok nmX0 rfl (ty := .int) (by decide +kernel) rfl rfl (Nat.le_of_ble_eq_true rfl) (List.mem_of_getElem? (i := 17) rfl) rfl dX7_pace_51 ?_
        refine j_aload_n X 0 rfl rfl dX7_pace_54 ?_
        refine j_iload_n X 1 rfl rfl dX7_pace_55 ?_
        refine j_callVV X (nn := 1) (As := [.int i1]) (st := []) (ci := 7) cl_0.1 (wE_7 _ cl_0.2) rfl aw_545 aw_546 (x_X7_thinkDays l D y ad i1 _ _ h) aw_544 aw_547 aw_2 (by decide +kernel) ⟨Nat.le_of_ble_eq_true rfl, Nat.le_of_ble_eq_true rfl⟩ rfl (Nat.le_of_ble_eq_true rfl) ⟨Nat.le_of_ble_eq_true rfl, Nat.le_of_ble_eq_true rfl⟩ dX7_pace_56 ?_
        intro M3404 h
        refine j_aload_n X 0 rfl rfl dX7_pace_59 ?_
        refine j_get X cl_0.1 (wE_7 _ cl_0.2) rfl awF7 2 (by decide) aw_21 rfl (v := .ref (ad 49)) rfl dX7_pace_60 ?_
        refine j_callVNI X (nn := 0) (As := []) (st := []) (ci := 0) cl_49.1 (wE_0 _ cl_49.2) rfl aw_462 aw_463 (x_X0_endedMany l D y ad 49 cl_49 _ _ h) (List.mem_of_getElem? (i := 31) rfl) aw_464 aw_20 (by decide +kernel) ⟨Nat.le_of_ble_eq_true rfl, Nat.le_of_ble_eq_true rfl⟩ rfl (Nat.le_of_ble_eq_true rfl) ⟨Nat.le_of_ble_eq_true rfl, Nat.le_of_ble_eq_true rfl⟩ dX7_pace_63 ?_
        intro r3405 M3405 h
        refine j_iload X 4 rfl dX7_pace_66 ?_
        refine j_icmp_le X 83 (by decide) dX7_pace_68 (fun q_3406 => ?_) (fun q_3406 => ?_)
        · replace h := h.1 q_3406
          refine j_iinc X (v := (i5 + 1)) 5 [(5, .int (i5 + 1)), (0, .ref (ad 0)), (1, .int i1), (2, .int i2), (3, .int i3), (4, .int i4)] rfl rfl (by decide) rfl dX7_pace_83 ?_
          refine j_goto X 34 (by decide) dX7_pace_86 ?_
          refine j_lv (lv1 := [(0, .ref (ad 0)), (1, .int i1), (2, .int i2), (3, .int i3), (4, .int i4), (5, .int (i5 + 1))]) [1, 2, 3, 4, 5, 0] rfl ?_
          exact hB34 _ _ _ _ h
        · replace h := h.2 q_3406
          refine j_iload X 5 rfl dX7_pace_71 ?_
          refine j_istore_n X [(3, .int i5), (0, .ref (ad 0)), (1, .int i1), (2, .int i2), (4, .int i4), (5, .int i5)] rfl (by decide) rfl dX7_pace_73 ?_
          refine j_aload_n X 1 rfl rfl dX7_pace_74 ?_
          refine j_get X cl_0.1 (wE_7 _ cl_0.2) rfl awF7 2 (by decide) aw_21 rfl (v := .ref (ad 49)) rfl dX7_pace_75 ?_
          refine j_callVNI X (nn := 0) (As := []) (st := []) (ci := 0) cl_49.1 (wE_0 _ cl_49.2) rfl aw_462 aw_463 (x_X0_endedMany l D y ad 49 cl_49 _ _ h) (List.mem_of_getElem? (i := 31) rfl) aw_464 aw_20 (by decide +kernel) ⟨Nat.le_of_ble_eq_true rfl, Nat.le_of_ble_eq_true rfl⟩ rfl (Nat.le_of_ble_eq_true rfl) ⟨Nat.le_of_ble_eq_true rfl, Nat.le_of_ble_eq_true rfl⟩ dX7_pace_78 ?_
          intro r3407 M3407 h
          refine j_istore X [(4, .int r3407), (3, .int i5), (0, .ref (ad 0)), (1, .int i1), (2, .int i2), (5, .int i5)] (by decide) rfl dX7_pace_81 ?_
          refine j_iinc X (v := (i5 + 1)) 5 [(5, .int (i5 + 1)), (4, .int r3407), (3, .int i5), (0, .ref (ad 0)), (1, .int i1), (2, .int i2)] rfl rfl (by decide) rfl dX7_pace_83 ?_
          refine j_goto X 34 (by decide) dX7_pace_86 ?_
          refine j_lv (lv1 := [(0, .ref (ad 0)), (1, .int i1), (2, .int i2), (3, .int i5), (4, .int r3407), (5, .int (i5 + 1))]) [3, 4, 5, 2, 1, 0] rfl ?_
          exact hB34 _ _ _ _ h
  delta wp_X7_pace at h
  refine j_lv (lv1 := [(0, .ref (ad 0)), (1, .int i1), (2, .int i2)]) [0, 1, 2] rfl ?_
  refine j_iload_n X 1 rfl rfl dX7_pace_0 ?_
  refine j_iconst X (v := 0) (by decide) dX7_pace_1 ?_
  refine j_bipush X (v := 60) (by decide) dX7_pace_2 ?_
  refine j_callSI X (nn := 3) (As := [.int i1, .int 0, .int 60]) (st := []) aw_110 (x_X7_isWithin l D y ad i1 0 60 _ _ h) aw_109 aw_111 aw_2 (by decide +kernel) ⟨Nat.le_of_ble_eq_true rfl, Nat.le_of_ble_eq_true rfl⟩ rfl (Nat.le_of_ble_eq_true rfl) ⟨Nat.le_of_ble_eq_true rfl, Nat.le_of_ble_eq_true rfl⟩ dX7_pace_4 ?_
  intro r1 M1 h
  refine j_if_eq X 19 (by decide) dX7_pace_7 (fun q_2 => ?_) (fun q_2 => ?_)
  · replace h := h.1 q_2
    refine j_aload_n X 0 rfl rfl dX7_pace_19 ?_
    refine j_ldc X (v := (-1000000001)) aw_108 dX7_pace_20 ?_
    refine j_callVI X (nn := 1) (As := [.int (-1000000001)]) (st := []) (ci := 7) cl_0.1 (wE_7 _ cl_0.2) rfl aw_117 aw_118 (x_X7_refuse l D y ad (-1000000001) _ _ h) aw_116 aw_119 aw_2 (by decide +kernel) ⟨Nat.le_of_ble_eq_true rfl, Nat.le_of_ble_eq_true rfl⟩ rfl (Nat.le_of_ble_eq_true rfl) ⟨Nat.le_of_ble_eq_true rfl, Nat.le_of_ble_eq_true rfl⟩ dX7_pace_22 ?_
    intro r3 M3 h
    exact j_iret X hr hlocks dX7_pace_25 h
  · replace h := h.2 q_2
    refine j_iload_n X 2 rfl rfl dX7_pace_10 ?_
    refine j_iconst X (v := 0) (by decide) dX7_pace_11 ?_
    refine j_iconst X (v := 1) (by decide) dX7_pace_12 ?_
    refine j_callSI X (nn := 3) (As := [.int i2, .int 0, .int 1]) (st := []) aw_110 (x_X7_isWithin l D y ad i2 0 1 _ _ h) aw_109 aw_111 aw_2 (by decide +kernel) ⟨Nat.le_of_ble_eq_true rfl, Nat.le_of_ble_eq_true rfl⟩ rfl (Nat.le_of_ble_eq_true rfl) ⟨Nat.le_of_ble_eq_true rfl, Nat.le_of_ble_eq_true rfl⟩ dX7_pace_13 ?_
    intro r4 M4 h
    refine j_if_ne X 26 (by decide) dX7_pace_16 (fun q_5 => ?_) (fun q_5 => ?_)
    · replace h := h.1 q_5
      refine j_iconst X (v := 0) (by decide) dX7_pace_26 ?_
      refine j_istore_n X [(3, .int 0), (0, .ref (ad 0)), (1, .int i1), (2, .int i2)] rfl (by decide) rfl dX7_pace_27 ?_
      refine j_iconst X (v := (-1)) (by decide) dX7_pace_28 ?_
      refine j_istore X [(4, .int (-1)), (3, .int 0), (0, .ref (ad 0)), (1, .int i1), (2, .int i2)] (by decide) rfl dX7_pace_29 ?_
      refine j_iconst X (v := 0) (by decide) dX7_pace_31 ?_
      refine j_istore X [(5, .int 0), (4, .int (-1)), (3, .int 0), (0, .ref (ad 0)), (1, .int i1), (2, .int i2)] (by decide) rfl dX7_pace_32 ?_
      refine j_lv (lv1 := [(0, .ref (ad 0)), (1, .int i1), (2, .int i2), (3, .int 0), (4, .int (-1)), (5, .int 0)]) [3, 4, 5, 2, 1, 0] rfl ?_
      obtain ⟨n34, h⟩ := h
      exact hL34 _ _   n34 _ _ _ _ h
    · replace h := h.2 q_5
      refine j_aload_n X 0 rfl rfl dX7_pace_19 ?_
      refine j_ldc X (v := (-1000000001)) aw_108 dX7_pace_20 ?_
      refine j_callVI X (nn := 1) (As := [.int (-1000000001)]) (st := []) (ci := 7) cl_0.1 (wE_7 _ cl_0.2) rfl aw_117 aw_118 (x_X7_refuse l D y ad (-1000000001) _ _ h) aw_116 aw_119 aw_2 (by decide +kernel) ⟨Nat.le_of_ble_eq_true rfl, Nat.le_of_ble_eq_true rfl⟩ rfl (Nat.le_of_ble_eq_true rfl) ⟨Nat.le_of_ble_eq_true rfl, Nat.le_of_ble_eq_true rfl⟩ dX7_pace_22 ?_
      intro r6 M6 h
      exact j_iret X hr hlocks dX7_pace_25 h
theorem dX7_endsInThought_13 : decode cX7_endsInThought 13 = .ok (.iload 4, 2) := dk_21 (by decide +kernel)
theorem dX7_endsInThought_15 : decode cX7_endsInThought 15 = .ok (.iload_n 2, 1) := dk_28 (by decide +kernel)
theorem dX7_endsInThought_16 : decode cX7_endsInThought 16 = .ok (.if_icmp .ge 24, 3) := dk_162 (by decide +kernel)
theorem dX7_endsInThought_40 : decode cX7_endsInThought 40 = .ok (.aload_n 3, 1) := dk_45 (by decide +kernel)
theorem dX7_endsInThought_41 : decode cX7_endsInThought 41 = .ok (.getfield 110, 3) := dk_180 (by decide +kernel)
theorem dX7_endsInThought_44 : decode cX7_endsInThought 44 = .ok (.ireturn, 1) := dk_172 (by decide +kernel)
theorem dX7_endsInThought_19 : decode cX7_endsInThought 19 = .ok (.aload_n 3, 1) := dk_45 (by decide +kernel)
theorem dX7_endsInThought_20 : decode cX7_endsInThought 20 = .ok (.getfield 110, 3) := dk_180 (by decide +kernel)
theorem dX7_endsInThought_23 : decode cX7_endsInThought 23 = .ok (.ifCond .ne 17, 3) := dk_154 (by decide +kernel)
theorem dX7_endsInThought_26 : decode cX7_endsInThought 26 = .ok (.aload_n 0, 1) := dk_42 (by decide +kernel)
theorem dX7_endsInThought_27 : decode cX7_endsInThought 27 = .ok (.getfield 31, 3) := dk_180 (by decide +kernel)
theorem dX7_endsInThought_30 : decode cX7_endsInThought 30 = .ok (.iconst 0, 1) := dk_3 (by decide +kernel)
theorem dX7_endsInThought_31 : decode cX7_endsInThought 31 = .ok (.invokevirtual 178, 3) := dk_182 (by decide +kernel)
theorem dX7_endsInThought_34 : decode cX7_endsInThought 34 = .ok (.iinc 4 1, 3) := dk_132 (by decide +kernel)
theorem dX7_endsInThought_37 : decode cX7_endsInThought 37 = .ok (.goto (-24), 3) := dk_167 (by decide +kernel)
theorem dX7_endsInThought_0 : decode cX7_endsInThought 0 = .ok (.aload_n 0, 1) := dk_42 (by decide +kernel)
theorem dX7_endsInThought_1 : decode cX7_endsInThought 1 = .ok (.getfield 31, 3) := dk_180 (by decide +kernel)
theorem dX7_endsInThought_4 : decode cX7_endsInThought 4 = .ok (.getfield 91, 3) := dk_180 (by decide +kernel)
theorem dX7_endsInThought_7 : decode cX7_endsInThought 7 = .ok (.iload_n 1, 1) := dk_27 (by decide +kernel)
theorem dX7_endsInThought_8 : decode cX7_endsInThought 8 = .ok (.aaload, 1) := dk_50 (by decide +kernel)
theorem dX7_endsInThought_9 : decode cX7_endsInThought 9 = .ok (.astore_n 3, 1) := dk_78 (by decide +kernel)
theorem dX7_endsInThought_10 : decode cX7_endsInThought 10 = .ok (.iconst 0, 1) := dk_3 (by decide +kernel)
theorem dX7_endsInThought_11 : decode cX7_endsInThought 11 = .ok (.istore 4, 2) := dk_54 (by decide +kernel)
set_option maxRecDepth 100000 in
set_option maxHeartbeats 8000000 in
theorem x_X7_endsInThought (l : Launch) (D : va_G) (y : wY) (ad : Nat → Nat) (i1 : Int32) (i2 : Int32) (M : Mem) (K : Int32 → Mem → Prop) (h : wp_X7_endsInThought i1 i2 M K) : MI l D y ad yX7_endsInThought (Cond.code yX7_endsInThought cX7_endsInThought 5 (some .boolean)) 6 M [.ref (ad 0), .int i1, .int i2] K := by
  refine MI_of (by decide) (Nat.le_of_ble_eq_true rfl) ?_
  intro p e s m args below meth c X hr hlocks
  have hL13 : ∀ (i2 : Int32) (x3 : Nat) (hx3 : Cl x3 1) (n : Nat) (i4 : Int32) (Mb : Mem), wp_X7_endsInThought_L13 K i2 x3 n i4 Mb → J p l e (rmN 6) s m args below meth c 0 0 (QI K D y ad M s args below) D y ad (va_A (PL y ad M) s.heap.size) 5 Mb 13 [(0, .ref (ad 0)), (2, .int i2), (3, .ref (ad x3)), (4, .int i4)] [] := by
    intro i2 x3 hx3 n
    induction n with
    | zero => intro i4 Mb h; exact False.elim h
    | succ n hB13 =>
      intro i4 Mb h
      replace h : wp_X7_endsInThought_l13 K i2 x3 (wp_X7_endsInThought_L13 K i2 x3 n) i4 Mb := h
      delta wp_X7_endsInThought_l13 at h
      refine j_iload X 3 rfl dX7_endsInThought_13 ?_
      refine j_iload_n X 1 rfl rfl dX7_endsInThought_15 ?_
      refine j_icmp_ge X 40 (by decide) dX7_endsInThought_16 (fun q_1301 => ?_) (fun q_1301 => ?_)
      · replace h := h.1 q_1301
        refine j_aload_n X 2 rfl rfl dX7_endsInThought_40 ?_
        refine j_getN X hx3.1 (wE_1 _ hx3.2) rfl awF1 6 (by decide) (List.mem_of_getElem? (i := 12) rfl) rfl (v := .int (Mb x3 6)) rfl dX7_endsInThought_41 ?_
        obtain ⟨hb_1302, h⟩ := h
        exact j_zret X hr hlocks hb_1302 dX7_endsInThought_44 h
      · replace h := h.2 q_1301
        refine j_aload_n X 2 rfl rfl dX7_endsInThought_19 ?_
        refine j_getN X hx3.1 (wE_1 _ hx3.2) rfl awF1 6 (by decide) (List.mem_of_getElem? (i := 12) rfl) rfl (v := .int (Mb x3 6)) rfl dX7_endsInThought_20 ?_
        refine j_if_ne X 40 (by decide) dX7_endsInThought_23 (fun q_1303 => ?_) (fun q_1303 => ?_)
        · replace h := h.1 q_1303
          refine j_aload_n X 2 rfl rfl dX7_endsInThought_40 ?_
          refine j_getN X hx3.1 (wE_1 _ hx3.2) rfl awF1 6 (by decide) (List.mem_of_getElem? (i := 12) rfl) rfl (v := .int (Mb x3 6)) rfl dX7_endsInThought_41 ?_
          obtain ⟨hb_1304, h⟩ := h
          exact j_zret X hr hlocks hb_1304 dX7_endsInThought_44 h
        · replace h := h.2 q_1303
          refine j_aload_n X 0 rfl rfl dX7_endsInThought_26 ?_
          refine j_get X cl_0.1 (wE_7 _ cl_0.2) rfl awF7 2 (by decide) aw_21 rfl (v := .ref (ad 49)) rfl dX7_endsInThought_27 ?_
          refine j_iconst X (v := 0) (by decide) dX7_endsInThought_30 ?_
          refine j_callVNV X (nn := 1) (As := [.int 0]) (st := []) (ci := 0) cl_49.1 (wE_0 _ cl_49.2) rfl aw_439 aw_440 (x_X0_passDay l D y ad 49 0 cl_49 _ _ h) (List.mem_of_getElem? (i := 27) rfl) aw_441 aw_20 (by decide +kernel) ⟨Nat.le_of_ble_eq_true rfl, Nat.le_of_ble_eq_true rfl⟩ rfl (Nat.le_of_ble_eq_true rfl) ⟨Nat.le_of_ble_eq_true rfl, Nat.le_of_ble_eq_true rfl⟩ dX7_endsInThought_31 ?_
          intro M1305 h
          refine j_iinc X (v := (i4 + 1)) 3 [(4, .int (i4 + 1)), (0, .ref (ad 0)), (2, .int i2), (3, .ref (ad x3))] rfl rfl (by decide) rfl dX7_endsInThought_34 ?_
          refine j_goto X 13 (by decide) dX7_endsInThought_37 ?_
          refine j_lv (lv1 := [(0, .ref (ad 0)), (2, .int i2), (3, .ref (ad x3)), (4, .int (i4 + 1))]) [1, 2, 3, 0] rfl ?_
          exact hB13 _ _ h
  delta wp_X7_endsInThought at h
  refine j_lv (lv1 := [(0, .ref (ad 0)), (1, .int i1), (2, .int i2)]) [0, 1, 2] rfl ?_
  refine j_aload_n X 0 rfl rfl dX7_endsInThought_0 ?_
  refine j_get X cl_0.1 (wE_7 _ cl_0.2) rfl awF7 2 (by decide) aw_21 rfl (v := .ref (ad 49)) rfl dX7_endsInThought_1 ?_
  refine j_getN X cl_49.1 (wE_0 _ cl_49.2) rfl awF0 2 (by decide) (List.mem_of_getElem? (i := 14) rfl) rfl (v := .ref (ad 50)) rfl dX7_endsInThought_4 ?_
  refine j_iload_n X 1 rfl rfl dX7_endsInThought_7 ?_
  obtain ⟨hi_1, h⟩ := h
  refine j_aald10 X cl_50.1 cl_50.2 hi_1 dX7_endsInThought_8 ?_
  refine j_eqr (v := (51 + i1.toNatClampNeg)) (re_50 hi_1) ?_
  have hk_2 := rc_50 hi_1
  refine j_astore_n X [(3, .ref (ad (51 + i1.toNatClampNeg))), (0, .ref (ad 0)), (1, .int i1), (2, .int i2)] rfl (by decide) rfl dX7_endsInThought_9 ?_
  refine j_iconst X (v := 0) (by decide) dX7_endsInThought_10 ?_
  refine j_istore X [(4, .int 0), (3, .ref (ad (51 + i1.toNatClampNeg))), (0, .ref (ad 0)), (1, .int i1), (2, .int i2)] (by decide) rfl dX7_endsInThought_11 ?_
  refine j_lv (lv1 := [(0, .ref (ad 0)), (2, .int i2), (3, .ref (ad (51 + i1.toNatClampNeg))), (4, .int 0)]) [2, 4, 1, 0] rfl ?_
  obtain ⟨n13, h⟩ := h
  exact hL13 _ _ hk_2  n13 _ _ h
theorem dX7_hand_87 : decode cX7_hand 87 = .ok (.istore 6, 2) := dk_54 (by decide +kernel)
theorem dX7_hand_89 : decode cX7_hand 89 = .ok (.iload 5, 2) := dk_21 (by decide +kernel)
theorem dX7_hand_91 : decode cX7_hand 91 = .ok (.iload_n 3, 1) := dk_29 (by decide +kernel)
theorem dX7_hand_92 : decode cX7_hand 92 = .ok (.iconst (-1), 1) := dk_2 (by decide +kernel)
theorem dX7_hand_93 : decode cX7_hand 93 = .ok (.ixor, 1) := dk_130 (by decide +kernel)
theorem dX7_hand_94 : decode cX7_hand 94 = .ok (.iand, 1) := dk_126 (by decide +kernel)
theorem dX7_hand_95 : decode cX7_hand 95 = .ok (.ifCond .ne 34, 3) := dk_154 (by decide +kernel)
theorem dX7_hand_129 : decode cX7_hand 129 = .ok (.iinc 5 1, 3) := dk_132 (by decide +kernel)
theorem dX7_hand_132 : decode cX7_hand 132 = .ok (.goto (-76), 3) := dk_167 (by decide +kernel)
theorem dX7_hand_98 : decode cX7_hand 98 = .ok (.iload 6, 2) := dk_21 (by decide +kernel)
theorem dX7_hand_100 : decode cX7_hand 100 = .ok (.ifCond .eq 29, 3) := dk_153 (by decide +kernel)
theorem dX7_hand_103 : decode cX7_hand 103 = .ok (.aload_n 0, 1) := dk_42 (by decide +kernel)
theorem dX7_hand_104 : decode cX7_hand 104 = .ok (.invokevirtual 191, 3) := dk_182 (by decide +kernel)
theorem dX7_hand_107 : decode cX7_hand 107 = .ok (.aload_n 0, 1) := dk_42 (by decide +kernel)
theorem dX7_hand_108 : decode cX7_hand 108 = .ok (.getfield 31, 3) := dk_180 (by decide +kernel)
theorem dX7_hand_111 : decode cX7_hand 111 = .ok (.iload 5, 2) := dk_21 (by decide +kernel)
theorem dX7_hand_113 : decode cX7_hand 113 = .ok (.invokevirtual 212, 3) := dk_182 (by decide +kernel)
theorem dX7_hand_116 : decode cX7_hand 116 = .ok (.aload_n 0, 1) := dk_42 (by decide +kernel)
theorem dX7_hand_117 : decode cX7_hand 117 = .ok (.iload_n 1, 1) := dk_27 (by decide +kernel)
theorem dX7_hand_118 : decode cX7_hand 118 = .ok (.iload_n 2, 1) := dk_28 (by decide +kernel)
theorem dX7_hand_119 : decode cX7_hand 119 = .ok (.invokevirtual 215, 3) := dk_182 (by decide +kernel)
theorem dX7_hand_122 : decode cX7_hand 122 = .ok (.ifCond .eq 7, 3) := dk_153 (by decide +kernel)
theorem dX7_hand_125 : decode cX7_hand 125 = .ok (.iload 5, 2) := dk_21 (by decide +kernel)
theorem dX7_hand_127 : decode cX7_hand 127 = .ok (.istore 4, 2) := dk_54 (by decide +kernel)
theorem dX7_hand_56 : decode cX7_hand 56 = .ok (.iload 5, 2) := dk_21 (by decide +kernel)
theorem dX7_hand_58 : decode cX7_hand 58 = .ok (.sipush 512, 3) := dk_17 (by decide +kernel)
theorem dX7_hand_61 : decode cX7_hand 61 = .ok (.if_icmp .ge 74, 3) := dk_162 (by decide +kernel)
theorem dX7_hand_135 : decode cX7_hand 135 = .ok (.iload 4, 2) := dk_21 (by decide +kernel)
theorem dX7_hand_137 : decode cX7_hand 137 = .ok (.ifCond .ge 12, 3) := dk_156 (by decide +kernel)
theorem dX7_hand_149 : decode cX7_hand 149 = .ok (.iload 4, 2) := dk_21 (by decide +kernel)
theorem dX7_hand_151 : decode cX7_hand 151 = .ok (.ireturn, 1) := dk_172 (by decide +kernel)
theorem dX7_hand_140 : decode cX7_hand 140 = .ok (.aload_n 0, 1) := dk_42 (by decide +kernel)
theorem dX7_hand_141 : decode cX7_hand 141 = .ok (.ldc 197, 2) := dk_18 (by decide +kernel)
theorem dX7_hand_143 : decode cX7_hand 143 = .ok (.invokevirtual 69, 3) := dk_182 (by decide +kernel)
theorem dX7_hand_146 : decode cX7_hand 146 = .ok (.goto 5, 3) := dk_167 (by decide +kernel)
theorem dX7_hand_64 : decode cX7_hand 64 = .ok (.iload 4, 2) := dk_21 (by decide +kernel)
theorem dX7_hand_66 : decode cX7_hand 66 = .ok (.ifCond .lt 16, 3) := dk_155 (by decide +kernel)
theorem dX7_hand_82 : decode cX7_hand 82 = .ok (.iconst 1, 1) := dk_4 (by decide +kernel)
theorem dX7_hand_83 : decode cX7_hand 83 = .ok (.goto 4, 3) := dk_167 (by decide +kernel)
theorem dX7_hand_69 : decode cX7_hand 69 = .ok (.iload 5, 2) := dk_21 (by decide +kernel)
theorem dX7_hand_71 : decode cX7_hand 71 = .ok (.invokestatic 207, 3) := dk_184 (by decide +kernel)
theorem dX7_hand_74 : decode cX7_hand 74 = .ok (.iload 4, 2) := dk_21 (by decide +kernel)
theorem dX7_hand_76 : decode cX7_hand 76 = .ok (.invokestatic 207, 3) := dk_184 (by decide +kernel)
theorem dX7_hand_79 : decode cX7_hand 79 = .ok (.if_icmp .ge 7, 3) := dk_162 (by decide +kernel)
theorem dX7_hand_86 : decode cX7_hand 86 = .ok (.iconst 0, 1) := dk_3 (by decide +kernel)
theorem dX7_hand_0 : decode cX7_hand 0 = .ok (.aload_n 0, 1) := dk_42 (by decide +kernel)
theorem dX7_hand_1 : decode cX7_hand 1 = .ok (.iload_n 1, 1) := dk_27 (by decide +kernel)
theorem dX7_hand_2 : decode cX7_hand 2 = .ok (.invokevirtual 117, 3) := dk_182 (by decide +kernel)
theorem dX7_hand_5 : decode cX7_hand 5 = .ok (.ifCond .eq 13, 3) := dk_153 (by decide +kernel)
theorem dX7_hand_18 : decode cX7_hand 18 = .ok (.aload_n 0, 1) := dk_42 (by decide +kernel)
theorem dX7_hand_19 : decode cX7_hand 19 = .ok (.ldc 68, 2) := dk_18 (by decide +kernel)
theorem dX7_hand_21 : decode cX7_hand 21 = .ok (.invokevirtual 69, 3) := dk_182 (by decide +kernel)
theorem dX7_hand_24 : decode cX7_hand 24 = .ok (.ireturn, 1) := dk_172 (by decide +kernel)
theorem dX7_hand_8 : decode cX7_hand 8 = .ok (.iload_n 2, 1) := dk_28 (by decide +kernel)
theorem dX7_hand_9 : decode cX7_hand 9 = .ok (.iconst 0, 1) := dk_3 (by decide +kernel)
theorem dX7_hand_10 : decode cX7_hand 10 = .ok (.bipush 20, 2) := dk_16 (by decide +kernel)
theorem dX7_hand_12 : decode cX7_hand 12 = .ok (.invokestatic 60, 3) := dk_184 (by decide +kernel)
theorem dX7_hand_15 : decode cX7_hand 15 = .ok (.ifCond .ne 10, 3) := dk_154 (by decide +kernel)
theorem dX7_hand_25 : decode cX7_hand 25 = .ok (.aload_n 0, 1) := dk_42 (by decide +kernel)
theorem dX7_hand_26 : decode cX7_hand 26 = .ok (.getfield 12, 3) := dk_180 (by decide +kernel)
theorem dX7_hand_29 : decode cX7_hand 29 = .ok (.getfield 72, 3) := dk_180 (by decide +kernel)
theorem dX7_hand_32 : decode cX7_hand 32 = .ok (.iload_n 1, 1) := dk_27 (by decide +kernel)
theorem dX7_hand_33 : decode cX7_hand 33 = .ok (.invokevirtual 204, 3) := dk_182 (by decide +kernel)
theorem dX7_hand_36 : decode cX7_hand 36 = .ok (.aload_n 0, 1) := dk_42 (by decide +kernel)
theorem dX7_hand_37 : decode cX7_hand 37 = .ok (.getfield 12, 3) := dk_180 (by decide +kernel)
theorem dX7_hand_40 : decode cX7_hand 40 = .ok (.getfield 72, 3) := dk_180 (by decide +kernel)
theorem dX7_hand_43 : decode cX7_hand 43 = .ok (.invokevirtual 198, 3) := dk_182 (by decide +kernel)
theorem dX7_hand_46 : decode cX7_hand 46 = .ok (.iconst (-1), 1) := dk_2 (by decide +kernel)
theorem dX7_hand_47 : decode cX7_hand 47 = .ok (.ixor, 1) := dk_130 (by decide +kernel)
theorem dX7_hand_48 : decode cX7_hand 48 = .ok (.iand, 1) := dk_126 (by decide +kernel)
theorem dX7_hand_49 : decode cX7_hand 49 = .ok (.istore_n 3, 1) := dk_62 (by decide +kernel)
theorem dX7_hand_50 : decode cX7_hand 50 = .ok (.iconst (-1), 1) := dk_2 (by decide +kernel)
theorem dX7_hand_51 : decode cX7_hand 51 = .ok (.istore 4, 2) := dk_54 (by decide +kernel)
theorem dX7_hand_53 : decode cX7_hand 53 = .ok (.iconst 0, 1) := dk_3 (by decide +kernel)
theorem dX7_hand_54 : decode cX7_hand 54 = .ok (.istore 5, 2) := dk_54 (by decide +kernel)
set_option maxRecDepth 100000 in
set_option maxHeartbeats 8000000 in
theorem x_X7_hand (l : Launch) (D : va_G) (y : wY) (ad : Nat → Nat) (i1 : Int32) (i2 : Int32) (M : Mem) (K : Int32 → Mem → Prop) (h : wp_X7_hand i1 i2 M K) : MI l D y ad yX7_hand (Cond.code yX7_hand cX7_hand 7 (some .int)) 7 M [.ref (ad 0), .int i1, .int i2] K := by
  refine MI_of (by decide) (Nat.le_of_ble_eq_true rfl) ?_
  intro p e s m args below meth c X hr hlocks
  have hb87 : ∀ (i1 : Int32) (i2 : Int32) (i3 : Int32) (i4 : Int32) (i5 : Int32) (t0 : Int32) (B56 : Int32 → Int32 → Mem → Prop) (hB56 : ∀ (i4' i5' : Int32) (Mh : Mem), B56 i4' i5' Mh → J p l e (rmN 7) s m args below meth c 0 0 (QI K D y ad M s args below) D y ad (va_A (PL y ad M) s.heap.size) 7 Mh 56 [(0, .ref (ad 0)), (1, .int i1), (2, .int i2), (3, .int i3), (4, .int i4'), (5, .int i5')] []) (Mb : Mem), wp_X7_hand_b87 K B56 i1 i2 i3 i4 i5 t0 Mb → J p l e (rmN 7) s m args below meth c 0 0 (QI K D y ad M s args below) D y ad (va_A (PL y ad M) s.heap.size) 7 Mb 87 [(0, .ref (ad 0)), (1, .int i1), (2, .int i2), (3, .int i3), (4, .int i4), (5, .int i5)] [.int t0] := by
    intro i1 i2 i3 i4 i5 t0 B56 hB56 Mb h
    delta wp_X7_hand_b87 at h
    refine j_istore X [(6, .int t0), (0, .ref (ad 0)), (1, .int i1), (2, .int i2), (3, .int i3), (4, .int i4), (5, .int i5)] (by decide) rfl dX7_hand_87 ?_
    refine j_iload X 6 rfl dX7_hand_89 ?_
    refine j_iload_n X 4 rfl rfl dX7_hand_91 ?_
    refine j_iconst X (v := (-1)) (by decide) dX7_hand_92 ?_
    refine j_ixor X dX7_hand_93 ?_
    refine j_iand X dX7_hand_94 ?_
    refine j_if_ne X 129 (by decide) dX7_hand_95 (fun q_8701 => ?_) (fun q_8701 => ?_)
    · replace h := h.1 q_8701
      refine j_iinc X (v := (i5 + 1)) 6 [(5, .int (i5 + 1)), (6, .int t0), (0, .ref (ad 0)), (1, .int i1), (2, .int i2), (3, .int i3), (4, .int i4)] rfl rfl (by decide) rfl dX7_hand_129 ?_
      refine j_goto X 56 (by decide) dX7_hand_132 ?_
      refine j_lv (lv1 := [(0, .ref (ad 0)), (1, .int i1), (2, .int i2), (3, .int i3), (4, .int i4), (5, .int (i5 + 1))]) [2, 3, 4, 5, 6, 0] rfl ?_
      exact hB56 _ _ _ h
    · replace h := h.2 q_8701
      refine j_iload X 0 rfl dX7_hand_98 ?_
      refine j_if_eq X 129 (by decide) dX7_hand_100 (fun q_8702 => ?_) (fun q_8702 => ?_)
      · replace h := h.1 q_8702
        refine j_iinc X (v := (i5 + 1)) 6 [(5, .int (i5 + 1)), (6, .int t0), (0, .ref (ad 0)), (1, .int i1), (2, .int i2), (3, .int i3), (4, .int i4)] rfl rfl (by decide) rfl dX7_hand_129 ?_
        refine j_goto X 56 (by decide) dX7_hand_132 ?_
        refine j_lv (lv1 := [(0, .ref (ad 0)), (1, .int i1), (2, .int i2), (3, .int i3), (4, .int i4), (5, .int (i5 + 1))]) [2, 3, 4, 5, 6, 0] rfl ?_
        exact hB56 _ _ _ h
      · replace h := h.2 q_8702
        refine j_aload_n X 1 rfl rfl dX7_hand_103 ?_
        refine j_callVV X (nn := 0) (As := []) (st := []) (ci := 7) cl_0.1 (wE_7 _ cl_0.2) rfl aw_534 aw_535 (x_X7_think l D y ad  _ _ h) aw_533 aw_536 aw_2 (by decide +kernel) ⟨Nat.le_of_ble_eq_true rfl, Nat.le_of_ble_eq_true rfl⟩ rfl (Nat.le_of_ble_eq_true rfl) ⟨Nat.le_of_ble_eq_true rfl, Nat.le_of_ble_eq_true rfl⟩ dX7_hand_104 ?_
        intro M8703 h
        refine j_aload_n X 1 rfl rfl dX7_hand_107 ?_
        refine j_get X cl_0.1 (wE_7 _ cl_0.2) rfl awF7 2 (by decide) aw_21 rfl (v := .ref (ad 49)) rfl dX7_hand_108 ?_
        refine j_iload X 6 rfl dX7_hand_111 ?_
        refine j_callVNV X (nn := 1) (As := [.int i5]) (st := []) (ci := 0) cl_49.1 (wE_0 _ cl_49.2) rfl aw_606 aw_607 (x_X0_sharpen l D y ad 49 i5 cl_49 _ _ h) (List.mem_of_getElem? (i := 37) rfl) aw_608 aw_20 (by decide +kernel) ⟨Nat.le_of_ble_eq_true rfl, Nat.le_of_ble_eq_true rfl⟩ rfl (Nat.le_of_ble_eq_true rfl) ⟨Nat.le_of_ble_eq_true rfl, Nat.le_of_ble_eq_true rfl⟩ dX7_hand_113 ?_
        intro M8704 h
        refine j_aload_n X 1 rfl rfl dX7_hand_116 ?_
        refine j_iload_n X 2 rfl rfl dX7_hand_117 ?_
        refine j_iload_n X 3 rfl rfl dX7_hand_118 ?_
        refine j_callVI X (nn := 2) (As := [.int i1, .int i2]) (st := []) (ci := 7) cl_0.1 (wE_7 _ cl_0.2) rfl aw_610 aw_611 (x_X7_endsInThought l D y ad i1 i2 _ _ h) aw_609 aw_612 aw_2 (by decide +kernel) ⟨Nat.le_of_ble_eq_true rfl, Nat.le_of_ble_eq_true rfl⟩ rfl (Nat.le_of_ble_eq_true rfl) ⟨Nat.le_of_ble_eq_true rfl, Nat.le_of_ble_eq_true rfl⟩ dX7_hand_119 ?_
        intro r8705 M8705 h
        refine j_if_eq X 129 (by decide) dX7_hand_122 (fun q_8706 => ?_) (fun q_8706 => ?_)
        · replace h := h.1 q_8706
          refine j_iinc X (v := (i5 + 1)) 6 [(5, .int (i5 + 1)), (6, .int t0), (0, .ref (ad 0)), (1, .int i1), (2, .int i2), (3, .int i3), (4, .int i4)] rfl rfl (by decide) rfl dX7_hand_129 ?_
          refine j_goto X 56 (by decide) dX7_hand_132 ?_
          refine j_lv (lv1 := [(0, .ref (ad 0)), (1, .int i1), (2, .int i2), (3, .int i3), (4, .int i4), (5, .int (i5 + 1))]) [2, 3, 4, 5, 6, 0] rfl ?_
          exact hB56 _ _ _ h
        · replace h := h.2 q_8706
          refine j_iload X 6 rfl dX7_hand_125 ?_
          refine j_istore X [(4, .int i5), (6, .int t0), (0, .ref (ad 0)), (1, .int i1), (2, .int i2), (3, .int i3), (5, .int i5)] (by decide) rfl dX7_hand_127 ?_
          refine j_iinc X (v := (i5 + 1)) 6 [(5, .int (i5 + 1)), (4, .int i5), (6, .int t0), (0, .ref (ad 0)), (1, .int i1), (2, .int i2), (3, .int i3)] rfl rfl (by decide) rfl dX7_hand_129 ?_
          refine j_goto X 56 (by decide) dX7_hand_132 ?_
          refine j_lv (lv1 := [(0, .ref (ad 0)), (1, .int i1), (2, .int i2), (3, .int i3), (4, .int i5), (5, .int (i5 + 1))]) [3, 4, 5, 6, 1, 0] rfl ?_
          exact hB56 _ _ _ h
  have hL56 : ∀ (i1 : Int32) (i2 : Int32) (i3 : Int32) (n : Nat) (i4 : Int32) (i5 : Int32) (Mb : Mem), wp_X7_hand_L56 K i1 i2 i3 n i4 i5 Mb → J p l e (rmN 7) s m args below meth c 0 0 (QI K D y ad M s args below) D y ad (va_A (PL y ad M) s.heap.size) 7 Mb 56 [(0, .ref (ad 0)), (1, .int i1), (2, .int i2), (3, .int i3), (4, .int i4), (5, .int i5)] [] := by
    intro i1 i2 i3 n
    induction n with
    | zero => intro i4 i5 Mb h; exact False.elim h
    | succ n hB56 =>
      intro i4 i5 Mb h
      replace h : wp_X7_hand_l56 K i1 i2 i3 (wp_X7_hand_L56 K i1 i2 i3 n) i4 i5 Mb := h
      delta wp_X7_hand_l56 at h
      refine j_iload X 5 rfl dX7_hand_56 ?_
      refine j_sipush X (v := 512) (by decide) dX7_hand_58 ?_
      refine j_icmp_ge X 135 (by decide) dX7_hand_61 (fun q_5601 => ?_) (fun q_5601 => ?_)
      · replace h := h.1 q_5601
        refine j_iload X 4 rfl dX7_hand_135 ?_
        refine j_if_ge X 149 (by decide) dX7_hand_137 (fun q_5602 => ?_) (fun q_5602 => ?_)
        · replace h := h.1 q_5602
          refine j_iload X 4 rfl dX7_hand_149 ?_
          exact j_iret X hr hlocks dX7_hand_151 h
        · replace h := h.2 q_5602
          refine j_aload_n X 0 rfl rfl dX7_hand_140 ?_
          refine j_ldc X (v := (-1000000002)) aw_560 dX7_hand_141 ?_
          refine j_callVI X (nn := 1) (As := [.int (-1000000002)]) (st := []) (ci := 7) cl_0.1 (wE_7 _ cl_0.2) rfl aw_117 aw_118 (x_X7_refuse l D y ad (-1000000002) _ _ h) aw_116 aw_119 aw_2 (by decide +kernel) ⟨Nat.le_of_ble_eq_true rfl, Nat.le_of_ble_eq_true rfl⟩ rfl (Nat.le_of_ble_eq_true rfl) ⟨Nat.le_of_ble_eq_true rfl, Nat.le_of_ble_eq_true rfl⟩ dX7_hand_143 ?_
          intro r5603 M5603 h
          refine j_goto X 151 (by decide) dX7_hand_146 ?_
          exact j_iret X hr hlocks dX7_hand_151 h
      · replace h := h.2 q_5601
        refine j_iload X 4 rfl dX7_hand_64 ?_
        refine j_if_lt X 82 (by decide) dX7_hand_66 (fun q_5604 => ?_) (fun q_5604 => ?_)
        · replace h := h.1 q_5604
          refine j_iconst X (v := 1) (by decide) dX7_hand_82 ?_
          refine j_goto X 87 (by decide) dX7_hand_83 ?_
          refine j_lv (lv1 := [(0, .ref (ad 0)), (1, .int i1), (2, .int i2), (3, .int i3), (4, .int i4), (5, .int i5)]) [0, 1, 2, 3, 4, 5] rfl ?_
          exact hb87 _ _ _ _ _ _ _ hB56 _ h
        · replace h := h.2 q_5604
          refine j_iload X 5 rfl dX7_hand_69 ?_
          refine j_callSI X (nn := 1) (As := [.int i5]) (st := []) aw_470 (x_J6_bitCount_0f7a4 l D y ad i5 _ _ h) aw_605 aw_472 aw_471 (by decide +kernel) ⟨Nat.le_of_ble_eq_true rfl, Nat.le_of_ble_eq_true rfl⟩ rfl (Nat.le_of_ble_eq_true rfl) ⟨Nat.le_of_ble_eq_true rfl, Nat.le_of_ble_eq_true rfl⟩ dX7_hand_71 ?_
          intro r5605 M5605 h
          refine j_iload X 4 rfl dX7_hand_74 ?_
          refine j_callSI X (nn := 1) (As := [.int i4]) (st := [.int r5605]) aw_470 (x_J6_bitCount_0f7a4 l D y ad i4 _ _ h) aw_605 aw_472 aw_471 (by decide +kernel) ⟨Nat.le_of_ble_eq_true rfl, Nat.le_of_ble_eq_true rfl⟩ rfl (Nat.le_of_ble_eq_true rfl) ⟨Nat.le_of_ble_eq_true rfl, Nat.le_of_ble_eq_true rfl⟩ dX7_hand_76 ?_
          intro r5606 M5606 h
          refine j_icmp_ge X 86 (by decide) dX7_hand_79 (fun q_5607 => ?_) (fun q_5607 => ?_)
          · replace h := h.1 q_5607
            refine j_iconst X (v := 0) (by decide) dX7_hand_86 ?_
            refine j_lv (lv1 := [(0, .ref (ad 0)), (1, .int i1), (2, .int i2), (3, .int i3), (4, .int i4), (5, .int i5)]) [0, 1, 2, 3, 4, 5] rfl ?_
            exact hb87 _ _ _ _ _ _ _ hB56 _ h
          · replace h := h.2 q_5607
            refine j_iconst X (v := 1) (by decide) dX7_hand_82 ?_
            refine j_goto X 87 (by decide) dX7_hand_83 ?_
            refine j_lv (lv1 := [(0, .ref (ad 0)), (1, .int i1), (2, .int i2), (3, .int i3), (4, .int i4), (5, .int i5)]) [0, 1, 2, 3, 4, 5] rfl ?_
            exact hb87 _ _ _ _ _ _ _ hB56 _ h
  delta wp_X7_hand at h
  refine j_lv (lv1 := [(0, .ref (ad 0)), (1, .int i1), (2, .int i2)]) [0, 1, 2] rfl ?_
  refine j_aload_n X 0 rfl rfl dX7_hand_0 ?_
  refine j_iload_n X 1 rfl rfl dX7_hand_1 ?_
  refine j_callVI X (nn := 1) (As := [.int i1]) (st := []) (ci := 7) cl_0.1 (wE_7 _ cl_0.2) rfl aw_191 aw_192 (x_X7_isQuarrel l D y ad i1 _ _ h) aw_190 aw_193 aw_2 (by decide +kernel) ⟨Nat.le_of_ble_eq_true rfl, Nat.le_of_ble_eq_true rfl⟩ rfl (Nat.le_of_ble_eq_true rfl) ⟨Nat.le_of_ble_eq_true rfl, Nat.le_of_ble_eq_true rfl⟩ dX7_hand_2 ?_
  intro r1 M1 h
  refine j_if_eq X 18 (by decide) dX7_hand_5 (fun q_2 => ?_) (fun q_2 => ?_)
  · replace h := h.1 q_2
    refine j_aload_n X 0 rfl rfl dX7_hand_18 ?_
    refine j_ldc X (v := (-1000000001)) aw_108 dX7_hand_19 ?_
    refine j_callVI X (nn := 1) (As := [.int (-1000000001)]) (st := []) (ci := 7) cl_0.1 (wE_7 _ cl_0.2) rfl aw_117 aw_118 (x_X7_refuse l D y ad (-1000000001) _ _ h) aw_116 aw_119 aw_2 (by decide +kernel) ⟨Nat.le_of_ble_eq_true rfl, Nat.le_of_ble_eq_true rfl⟩ rfl (Nat.le_of_ble_eq_true rfl) ⟨Nat.le_of_ble_eq_true rfl, Nat.le_of_ble_eq_true rfl⟩ dX7_hand_21 ?_
    intro r3 M3 h
    exact j_iret X hr hlocks dX7_hand_24 h
  · replace h := h.2 q_2
    refine j_iload_n X 2 rfl rfl dX7_hand_8 ?_
    refine j_iconst X (v := 0) (by decide) dX7_hand_9 ?_
    refine j_bipush X (v := 20) (by decide) dX7_hand_10 ?_
    refine j_callSI X (nn := 3) (As := [.int i2, .int 0, .int 20]) (st := []) aw_110 (x_X7_isWithin l D y ad i2 0 20 _ _ h) aw_109 aw_111 aw_2 (by decide +kernel) ⟨Nat.le_of_ble_eq_true rfl, Nat.le_of_ble_eq_true rfl⟩ rfl (Nat.le_of_ble_eq_true rfl) ⟨Nat.le_of_ble_eq_true rfl, Nat.le_of_ble_eq_true rfl⟩ dX7_hand_12 ?_
    intro r4 M4 h
    refine j_if_ne X 25 (by decide) dX7_hand_15 (fun q_5 => ?_) (fun q_5 => ?_)
    · replace h := h.1 q_5
      refine j_aload_n X 0 rfl rfl dX7_hand_25 ?_
      refine j_get X cl_0.1 (wE_7 _ cl_0.2) rfl awF7 0 (by decide) aw_16 rfl (v := .ref (ad 1)) rfl dX7_hand_26 ?_
      refine j_getN X cl_1.1 (wE_6 _ cl_1.2) rfl awF6 2 (by decide) (List.mem_of_getElem? (i := 23) rfl) rfl (v := .ref (ad 12)) rfl dX7_hand_29 ?_
      refine j_iload_n X 1 rfl rfl dX7_hand_32 ?_
      refine j_callVNI X (nn := 1) (As := [.int i1]) (st := []) (ci := 0) cl_12.1 (wE_0 _ cl_12.2) rfl aw_602 aw_603 (x_X0_setItHangsOn l D y ad 12 i1 cl_12 _ _ h) (List.mem_of_getElem? (i := 36) rfl) aw_604 aw_20 (by decide +kernel) ⟨Nat.le_of_ble_eq_true rfl, Nat.le_of_ble_eq_true rfl⟩ rfl (Nat.le_of_ble_eq_true rfl) ⟨Nat.le_of_ble_eq_true rfl, Nat.le_of_ble_eq_true rfl⟩ dX7_hand_33 ?_
      intro r6 M6 h
      refine j_aload_n X 0 rfl rfl dX7_hand_36 ?_
      refine j_get X cl_0.1 (wE_7 _ cl_0.2) rfl awF7 0 (by decide) aw_16 rfl (v := .ref (ad 1)) rfl dX7_hand_37 ?_
      refine j_getN X cl_1.1 (wE_6 _ cl_1.2) rfl awF6 2 (by decide) (List.mem_of_getElem? (i := 23) rfl) rfl (v := .ref (ad 12)) rfl dX7_hand_40 ?_
      refine j_callVNI X (nn := 0) (As := []) (st := [.int r6]) (ci := 0) cl_12.1 (wE_0 _ cl_12.2) rfl aw_466 aw_467 (x_X0_setEnded l D y ad 12 cl_12 _ _ h) (List.mem_of_getElem? (i := 35) rfl) aw_468 aw_20 (by decide +kernel) ⟨Nat.le_of_ble_eq_true rfl, Nat.le_of_ble_eq_true rfl⟩ rfl (Nat.le_of_ble_eq_true rfl) ⟨Nat.le_of_ble_eq_true rfl, Nat.le_of_ble_eq_true rfl⟩ dX7_hand_43 ?_
      intro r7 M7 h
      refine j_iconst X (v := (-1)) (by decide) dX7_hand_46 ?_
      refine j_ixor X dX7_hand_47 ?_
      refine j_iand X dX7_hand_48 ?_
      refine j_istore_n X [(3, .int (r6 &&& (r7 ^^^ (-1)))), (0, .ref (ad 0)), (1, .int i1), (2, .int i2)] rfl (by decide) rfl dX7_hand_49 ?_
      refine j_iconst X (v := (-1)) (by decide) dX7_hand_50 ?_
      refine j_istore X [(4, .int (-1)), (3, .int (r6 &&& (r7 ^^^ (-1)))), (0, .ref (ad 0)), (1, .int i1), (2, .int i2)] (by decide) rfl dX7_hand_51 ?_
      refine j_iconst X (v := 0) (by decide) dX7_hand_53 ?_
      refine j_istore X [(5, .int 0), (4, .int (-1)), (3, .int (r6 &&& (r7 ^^^ (-1)))), (0, .ref (ad 0)), (1, .int i1), (2, .int i2)] (by decide) rfl dX7_hand_54 ?_
      refine j_lv (lv1 := [(0, .ref (ad 0)), (1, .int i1), (2, .int i2), (3, .int (r6 &&& (r7 ^^^ (-1)))), (4, .int (-1)), (5, .int 0)]) [3, 4, 5, 2, 1, 0] rfl ?_
      obtain ⟨n56, h⟩ := h
      exact hL56 _ _ _   n56 _ _ _ h
    · replace h := h.2 q_5
      refine j_aload_n X 0 rfl rfl dX7_hand_18 ?_
      refine j_ldc X (v := (-1000000001)) aw_108 dX7_hand_19 ?_
      refine j_callVI X (nn := 1) (As := [.int (-1000000001)]) (st := []) (ci := 7) cl_0.1 (wE_7 _ cl_0.2) rfl aw_117 aw_118 (x_X7_refuse l D y ad (-1000000001) _ _ h) aw_116 aw_119 aw_2 (by decide +kernel) ⟨Nat.le_of_ble_eq_true rfl, Nat.le_of_ble_eq_true rfl⟩ rfl (Nat.le_of_ble_eq_true rfl) ⟨Nat.le_of_ble_eq_true rfl, Nat.le_of_ble_eq_true rfl⟩ dX7_hand_21 ?_
      intro r8 M8 h
      exact j_iret X hr hlocks dX7_hand_24 h
theorem dX7_thinkDaysWithHarm_2 : decode cX7_thinkDaysWithHarm 2 = .ok (.iload_n 2, 1) := dk_28 (by decide +kernel)
theorem dX7_thinkDaysWithHarm_3 : decode cX7_thinkDaysWithHarm 3 = .ok (.iload_n 1, 1) := dk_27 (by decide +kernel)
theorem dX7_thinkDaysWithHarm_4 : decode cX7_thinkDaysWithHarm 4 = .ok (.if_icmp .ge 17, 3) := dk_162 (by decide +kernel)
theorem dX7_thinkDaysWithHarm_21 : decode cX7_thinkDaysWithHarm 21 = .ok (.return_, 1) := dk_177 (by decide +kernel)
theorem dX7_thinkDaysWithHarm_7 : decode cX7_thinkDaysWithHarm 7 = .ok (.aload_n 0, 1) := dk_42 (by decide +kernel)
theorem dX7_thinkDaysWithHarm_8 : decode cX7_thinkDaysWithHarm 8 = .ok (.getfield 31, 3) := dk_180 (by decide +kernel)
theorem dX7_thinkDaysWithHarm_11 : decode cX7_thinkDaysWithHarm 11 = .ok (.iconst 1, 1) := dk_4 (by decide +kernel)
theorem dX7_thinkDaysWithHarm_12 : decode cX7_thinkDaysWithHarm 12 = .ok (.invokevirtual 178, 3) := dk_182 (by decide +kernel)
theorem dX7_thinkDaysWithHarm_15 : decode cX7_thinkDaysWithHarm 15 = .ok (.iinc 2 1, 3) := dk_132 (by decide +kernel)
theorem dX7_thinkDaysWithHarm_18 : decode cX7_thinkDaysWithHarm 18 = .ok (.goto (-16), 3) := dk_167 (by decide +kernel)
theorem dX7_thinkDaysWithHarm_0 : decode cX7_thinkDaysWithHarm 0 = .ok (.iconst 0, 1) := dk_3 (by decide +kernel)
theorem dX7_thinkDaysWithHarm_1 : decode cX7_thinkDaysWithHarm 1 = .ok (.istore_n 2, 1) := dk_61 (by decide +kernel)
set_option maxRecDepth 100000 in
set_option maxHeartbeats 8000000 in
theorem x_X7_thinkDaysWithHarm (l : Launch) (D : va_G) (y : wY) (ad : Nat → Nat) (i1 : Int32) (M : Mem) (K : Mem → Prop) (h : wp_X7_thinkDaysWithHarm i1 M K) : MV l D y ad yX7_thinkDaysWithHarm (Cond.code yX7_thinkDaysWithHarm cX7_thinkDaysWithHarm 3 none) 6 M [.ref (ad 0), .int i1] K := by
  refine MV_of (by decide) (Nat.le_of_ble_eq_true rfl) ?_
  intro p e s m args below meth c X hr hlocks
  have hL2 : ∀ (i1 : Int32) (n : Nat) (i2 : Int32) (Mb : Mem), wp_X7_thinkDaysWithHarm_L2 K i1 n i2 Mb → J p l e (rmN 6) s m args below meth c 0 0 (QV K D y ad M s args below) D y ad (va_A (PL y ad M) s.heap.size) 3 Mb 2 [(0, .ref (ad 0)), (1, .int i1), (2, .int i2)] [] := by
    intro i1 n
    induction n with
    | zero => intro i2 Mb h; exact False.elim h
    | succ n hB2 =>
      intro i2 Mb h
      replace h : wp_X7_thinkDaysWithHarm_l2 K i1 (wp_X7_thinkDaysWithHarm_L2 K i1 n) i2 Mb := h
      delta wp_X7_thinkDaysWithHarm_l2 at h
      refine j_iload_n X 2 rfl rfl dX7_thinkDaysWithHarm_2 ?_
      refine j_iload_n X 1 rfl rfl dX7_thinkDaysWithHarm_3 ?_
      refine j_icmp_ge X 21 (by decide) dX7_thinkDaysWithHarm_4 (fun q_201 => ?_) (fun q_201 => ?_)
      · replace h := h.1 q_201
        exact j_vret X hr hlocks dX7_thinkDaysWithHarm_21 h
      · replace h := h.2 q_201
        refine j_aload_n X 0 rfl rfl dX7_thinkDaysWithHarm_7 ?_
        refine j_get X cl_0.1 (wE_7 _ cl_0.2) rfl awF7 2 (by decide) aw_21 rfl (v := .ref (ad 49)) rfl dX7_thinkDaysWithHarm_8 ?_
        refine j_iconst X (v := 1) (by decide) dX7_thinkDaysWithHarm_11 ?_
        refine j_callVNV X (nn := 1) (As := [.int 1]) (st := []) (ci := 0) cl_49.1 (wE_0 _ cl_49.2) rfl aw_439 aw_440 (x_X0_passDay l D y ad 49 1 cl_49 _ _ h) (List.mem_of_getElem? (i := 27) rfl) aw_441 aw_20 (by decide +kernel) ⟨Nat.le_of_ble_eq_true rfl, Nat.le_of_ble_eq_true rfl⟩ rfl (Nat.le_of_ble_eq_true rfl) ⟨Nat.le_of_ble_eq_true rfl, Nat.le_of_ble_eq_true rfl⟩ dX7_thinkDaysWithHarm_12 ?_
        intro M202 h
        refine j_iinc X (v := (i2 + 1)) 2 [(2, .int (i2 + 1)), (0, .ref (ad 0)), (1, .int i1)] rfl rfl (by decide) rfl dX7_thinkDaysWithHarm_15 ?_
        refine j_goto X 2 (by decide) dX7_thinkDaysWithHarm_18 ?_
        refine j_lv (lv1 := [(0, .ref (ad 0)), (1, .int i1), (2, .int (i2 + 1))]) [1, 2, 0] rfl ?_
        exact hB2 _ _ h
  delta wp_X7_thinkDaysWithHarm at h
  refine j_lv (lv1 := [(0, .ref (ad 0)), (1, .int i1)]) [0, 1] rfl ?_
  refine j_iconst X (v := 0) (by decide) dX7_thinkDaysWithHarm_0 ?_
  refine j_istore_n X [(2, .int 0), (0, .ref (ad 0)), (1, .int i1)] rfl (by decide) rfl dX7_thinkDaysWithHarm_1 ?_
  refine j_lv (lv1 := [(0, .ref (ad 0)), (1, .int i1), (2, .int 0)]) [1, 2, 0] rfl ?_
  obtain ⟨n2, h⟩ := h
  exact hL2 _   n2 _ _ h
theorem dX7_first_34 : decode cX7_first 34 = .ok (.iload 5, 2) := dk_21 (by decide +kernel)
theorem dX7_first_36 : decode cX7_first 36 = .ok (.aload_n 0, 1) := dk_42 (by decide +kernel)
theorem dX7_first_37 : decode cX7_first 37 = .ok (.getfield 12, 3) := dk_180 (by decide +kernel)
theorem dX7_first_40 : decode cX7_first 40 = .ok (.getfield 72, 3) := dk_180 (by decide +kernel)
theorem dX7_first_43 : decode cX7_first 43 = .ok (.getfield 86, 3) := dk_180 (by decide +kernel)
theorem dX7_first_46 : decode cX7_first 46 = .ok (.if_icmp .ge 60, 3) := dk_162 (by decide +kernel)
theorem dX7_first_106 : decode cX7_first 106 = .ok (.iload_n 3, 1) := dk_29 (by decide +kernel)
theorem dX7_first_107 : decode cX7_first 107 = .ok (.ifCond .ge 10, 3) := dk_156 (by decide +kernel)
theorem dX7_first_117 : decode cX7_first 117 = .ok (.iload_n 2, 1) := dk_28 (by decide +kernel)
theorem dX7_first_118 : decode cX7_first 118 = .ok (.ifCond .ne 7, 3) := dk_154 (by decide +kernel)
theorem dX7_first_125 : decode cX7_first 125 = .ok (.iload 4, 2) := dk_21 (by decide +kernel)
theorem dX7_first_127 : decode cX7_first 127 = .ok (.aload_n 0, 1) := dk_42 (by decide +kernel)
theorem dX7_first_128 : decode cX7_first 128 = .ok (.getfield 12, 3) := dk_180 (by decide +kernel)
theorem dX7_first_131 : decode cX7_first 131 = .ok (.getfield 72, 3) := dk_180 (by decide +kernel)
theorem dX7_first_134 : decode cX7_first 134 = .ok (.getfield 222, 3) := dk_180 (by decide +kernel)
theorem dX7_first_137 : decode cX7_first 137 = .ok (.isub, 1) := dk_100 (by decide +kernel)
theorem dX7_first_138 : decode cX7_first 138 = .ok (.ireturn, 1) := dk_172 (by decide +kernel)
theorem dX7_first_121 : decode cX7_first 121 = .ok (.iload_n 3, 1) := dk_29 (by decide +kernel)
theorem dX7_first_122 : decode cX7_first 122 = .ok (.goto 16, 3) := dk_167 (by decide +kernel)
theorem dX7_first_110 : decode cX7_first 110 = .ok (.aload_n 0, 1) := dk_42 (by decide +kernel)
theorem dX7_first_111 : decode cX7_first 111 = .ok (.ldc 197, 2) := dk_18 (by decide +kernel)
theorem dX7_first_113 : decode cX7_first 113 = .ok (.invokevirtual 69, 3) := dk_182 (by decide +kernel)
theorem dX7_first_116 : decode cX7_first 116 = .ok (.ireturn, 1) := dk_172 (by decide +kernel)
theorem dX7_first_49 : decode cX7_first 49 = .ok (.aload_n 0, 1) := dk_42 (by decide +kernel)
theorem dX7_first_50 : decode cX7_first 50 = .ok (.invokevirtual 191, 3) := dk_182 (by decide +kernel)
theorem dX7_first_53 : decode cX7_first 53 = .ok (.aload_n 0, 1) := dk_42 (by decide +kernel)
theorem dX7_first_54 : decode cX7_first 54 = .ok (.getfield 31, 3) := dk_180 (by decide +kernel)
theorem dX7_first_57 : decode cX7_first 57 = .ok (.getfield 91, 3) := dk_180 (by decide +kernel)
theorem dX7_first_60 : decode cX7_first 60 = .ok (.iload 5, 2) := dk_21 (by decide +kernel)
theorem dX7_first_62 : decode cX7_first 62 = .ok (.aaload, 1) := dk_50 (by decide +kernel)
theorem dX7_first_63 : decode cX7_first 63 = .ok (.iconst 1, 1) := dk_4 (by decide +kernel)
theorem dX7_first_64 : decode cX7_first 64 = .ok (.putfield 110, 3) := dk_181 (by decide +kernel)
theorem dX7_first_67 : decode cX7_first 67 = .ok (.aload_n 0, 1) := dk_42 (by decide +kernel)
theorem dX7_first_68 : decode cX7_first 68 = .ok (.iload_n 1, 1) := dk_27 (by decide +kernel)
theorem dX7_first_69 : decode cX7_first 69 = .ok (.invokevirtual 219, 3) := dk_182 (by decide +kernel)
theorem dX7_first_72 : decode cX7_first 72 = .ok (.iload_n 3, 1) := dk_29 (by decide +kernel)
theorem dX7_first_73 : decode cX7_first 73 = .ok (.ifCond .lt 15, 3) := dk_155 (by decide +kernel)
theorem dX7_first_88 : decode cX7_first 88 = .ok (.iload 5, 2) := dk_21 (by decide +kernel)
theorem dX7_first_90 : decode cX7_first 90 = .ok (.istore_n 3, 1) := dk_62 (by decide +kernel)
theorem dX7_first_91 : decode cX7_first 91 = .ok (.aload_n 0, 1) := dk_42 (by decide +kernel)
theorem dX7_first_92 : decode cX7_first 92 = .ok (.getfield 31, 3) := dk_180 (by decide +kernel)
theorem dX7_first_95 : decode cX7_first 95 = .ok (.getfield 222, 3) := dk_180 (by decide +kernel)
theorem dX7_first_98 : decode cX7_first 98 = .ok (.istore 4, 2) := dk_54 (by decide +kernel)
theorem dX7_first_100 : decode cX7_first 100 = .ok (.iinc 5 1, 3) := dk_132 (by decide +kernel)
theorem dX7_first_103 : decode cX7_first 103 = .ok (.goto (-69), 3) := dk_167 (by decide +kernel)
theorem dX7_first_76 : decode cX7_first 76 = .ok (.aload_n 0, 1) := dk_42 (by decide +kernel)
theorem dX7_first_77 : decode cX7_first 77 = .ok (.getfield 31, 3) := dk_180 (by decide +kernel)
theorem dX7_first_80 : decode cX7_first 80 = .ok (.getfield 222, 3) := dk_180 (by decide +kernel)
theorem dX7_first_83 : decode cX7_first 83 = .ok (.iload 4, 2) := dk_21 (by decide +kernel)
theorem dX7_first_85 : decode cX7_first 85 = .ok (.if_icmp .ge 15, 3) := dk_162 (by decide +kernel)
theorem dX7_first_0 : decode cX7_first 0 = .ok (.iload_n 1, 1) := dk_27 (by decide +kernel)
theorem dX7_first_1 : decode cX7_first 1 = .ok (.iconst 0, 1) := dk_3 (by decide +kernel)
theorem dX7_first_2 : decode cX7_first 2 = .ok (.bipush 60, 2) := dk_16 (by decide +kernel)
theorem dX7_first_4 : decode cX7_first 4 = .ok (.invokestatic 60, 3) := dk_184 (by decide +kernel)
theorem dX7_first_7 : decode cX7_first 7 = .ok (.ifCond .eq 12, 3) := dk_153 (by decide +kernel)
theorem dX7_first_19 : decode cX7_first 19 = .ok (.aload_n 0, 1) := dk_42 (by decide +kernel)
theorem dX7_first_20 : decode cX7_first 20 = .ok (.ldc 68, 2) := dk_18 (by decide +kernel)
theorem dX7_first_22 : decode cX7_first 22 = .ok (.invokevirtual 69, 3) := dk_182 (by decide +kernel)
theorem dX7_first_25 : decode cX7_first 25 = .ok (.ireturn, 1) := dk_172 (by decide +kernel)
theorem dX7_first_10 : decode cX7_first 10 = .ok (.iload_n 2, 1) := dk_28 (by decide +kernel)
theorem dX7_first_11 : decode cX7_first 11 = .ok (.iconst 0, 1) := dk_3 (by decide +kernel)
theorem dX7_first_12 : decode cX7_first 12 = .ok (.iconst 1, 1) := dk_4 (by decide +kernel)
theorem dX7_first_13 : decode cX7_first 13 = .ok (.invokestatic 60, 3) := dk_184 (by decide +kernel)
theorem dX7_first_16 : decode cX7_first 16 = .ok (.ifCond .ne 10, 3) := dk_154 (by decide +kernel)
theorem dX7_first_26 : decode cX7_first 26 = .ok (.iconst (-1), 1) := dk_2 (by decide +kernel)
theorem dX7_first_27 : decode cX7_first 27 = .ok (.istore_n 3, 1) := dk_62 (by decide +kernel)
theorem dX7_first_28 : decode cX7_first 28 = .ok (.iconst 0, 1) := dk_3 (by decide +kernel)
theorem dX7_first_29 : decode cX7_first 29 = .ok (.istore 4, 2) := dk_54 (by decide +kernel)
theorem dX7_first_31 : decode cX7_first 31 = .ok (.iconst 0, 1) := dk_3 (by decide +kernel)
theorem dX7_first_32 : decode cX7_first 32 = .ok (.istore 5, 2) := dk_54 (by decide +kernel)
set_option maxRecDepth 100000 in
set_option maxHeartbeats 8000000 in
theorem x_X7_first (l : Launch) (D : va_G) (y : wY) (ad : Nat → Nat) (i1 : Int32) (i2 : Int32) (M : Mem) (K : Int32 → Mem → Prop) (h : wp_X7_first i1 i2 M K) : MI l D y ad yX7_first (Cond.code yX7_first cX7_first 6 (some .int)) 7 M [.ref (ad 0), .int i1, .int i2] K := by
  refine MI_of (by decide) (Nat.le_of_ble_eq_true rfl) ?_
  intro p e s m args below meth c X hr hlocks
  have hL34 : ∀ (i1 : Int32) (i2 : Int32) (n : Nat) (i3 : Int32) (i4 : Int32) (i5 : Int32) (Mb : Mem), wp_X7_first_L34 K i1 i2 n i3 i4 i5 Mb → J p l e (rmN 7) s m args below meth c 0 0 (QI K D y ad M s args below) D y ad (va_A (PL y ad M) s.heap.size) 6 Mb 34 [(0, .ref (ad 0)), (1, .int i1), (2, .int i2), (3, .int i3), (4, .int i4), (5, .int i5)] [] := by
    intro i1 i2 n
    induction n with
    | zero => intro i3 i4 i5 Mb h; exact False.elim h
    | succ n hB34 =>
      intro i3 i4 i5 Mb h
      replace h : wp_X7_first_l34 K i1 i2 (wp_X7_first_L34 K i1 i2 n) i3 i4 i5 Mb := h
      delta wp_X7_first_l34 at h
      refine j_iload X 5 rfl dX7_first_34 ?_
      refine j_aload_n X 0 rfl rfl dX7_first_36 ?_
      refine j_get X cl_0.1 (wE_7 _ cl_0.2) rfl awF7 0 (by decide) aw_16 rfl (v := .ref (ad 1)) rfl dX7_first_37 ?_
      refine j_getN X cl_1.1 (wE_6 _ cl_1.2) rfl awF6 2 (by decide) (List.mem_of_getElem? (i := 23) rfl) rfl (v := .ref (ad 12)) rfl dX7_first_40 ?_
      refine j_getN X cl_12.1 (wE_0 _ cl_12.2) rfl awF0 3 (by decide) (List.mem_of_getElem? (i := 15) rfl) rfl (v := .int (Mb 12 3)) rfl dX7_first_43 ?_
      refine j_icmp_ge X 106 (by decide) dX7_first_46 (fun q_3401 => ?_) (fun q_3401 => ?_)
      · replace h := h.1 q_3401
        refine j_iload_n X 3 rfl rfl dX7_first_106 ?_
        refine j_if_ge X 117 (by decide) dX7_first_107 (fun q_3402 => ?_) (fun q_3402 => ?_)
        · replace h := h.1 q_3402
          refine j_iload_n X 2 rfl rfl dX7_first_117 ?_
          refine j_if_ne X 125 (by decide) dX7_first_118 (fun q_3403 => ?_) (fun q_3403 => ?_)
          · replace h := h.1 q_3403
            refine j_iload X 4 rfl dX7_first_125 ?_
            refine j_aload_n X 0 rfl rfl dX7_first_127 ?_
            refine j_get X cl_0.1 (wE_7 _ cl_0.2) rfl awF7 0 (by decide) aw_16 rfl (v := .ref (ad 1)) rfl dX7_first_128 ?_
            refine j_getN X cl_1.1 (wE_6 _ cl_1.2) rfl awF6 2 (by decide) (List.mem_of_getElem? (i := 23) rfl) rfl (v := .ref (ad 12)) rfl dX7_first_131 ?_
            refine j_getN X cl_12.1 (wE_0 _ cl_12.2) rfl awF0 7 (by decide) (List.mem_of_getElem? (i := 19) rfl) rfl (v := .int (Mb 12 7)) rfl dX7_first_134 ?_
            refine j_isub X dX7_first_137 ?_
            exact j_iret X hr hlocks dX7_first_138 h
          · replace h := h.2 q_3403
            refine j_iload_n X 3 rfl rfl dX7_first_121 ?_
            refine j_goto X 138 (by decide) dX7_first_122 ?_
            exact j_iret X hr hlocks dX7_first_138 h
        · replace h := h.2 q_3402
          refine j_aload_n X 0 rfl rfl dX7_first_110 ?_
          refine j_ldc X (v := (-1000000002)) aw_560 dX7_first_111 ?_
          refine j_callVI X (nn := 1) (As := [.int (-1000000002)]) (st := []) (ci := 7) cl_0.1 (wE_7 _ cl_0.2) rfl aw_117 aw_118 (x_X7_refuse l D y ad (-1000000002) _ _ h) aw_116 aw_119 aw_2 (by decide +kernel) ⟨Nat.le_of_ble_eq_true rfl, Nat.le_of_ble_eq_true rfl⟩ rfl (Nat.le_of_ble_eq_true rfl) ⟨Nat.le_of_ble_eq_true rfl, Nat.le_of_ble_eq_true rfl⟩ dX7_first_113 ?_
          intro r3404 M3404 h
          exact j_iret X hr hlocks dX7_first_116 h
      · replace h := h.2 q_3401
        refine j_aload_n X 0 rfl rfl dX7_first_49 ?_
        refine j_callVV X (nn := 0) (As := []) (st := []) (ci := 7) cl_0.1 (wE_7 _ cl_0.2) rfl aw_534 aw_535 (x_X7_think l D y ad  _ _ h) aw_533 aw_536 aw_2 (by decide +kernel) ⟨Nat.le_of_ble_eq_true rfl, Nat.le_of_ble_eq_true rfl⟩ rfl (Nat.le_of_ble_eq_true rfl) ⟨Nat.le_of_ble_eq_true rfl, Nat.le_of_ble_eq_true rfl⟩ dX7_first_50 ?_
        intro M3405 h
        refine j_aload_n X 0 rfl rfl dX7_first_53 ?_
        refine j_get X cl_0.1 (wE_7 _ cl_0.2) rfl awF7 2 (by decide) aw_21 rfl (v := .ref (ad 49)) rfl dX7_first_54 ?_
        refine j_getN X cl_49.1 (wE_0 _ cl_49.2) rfl awF0 2 (by decide) (List.mem_of_getElem? (i := 14) rfl) rfl (v := .ref (ad 50)) rfl dX7_first_57 ?_
        refine j_iload X 5 rfl dX7_first_60 ?_
        obtain ⟨hi_3406, h⟩ := h
        refine j_aald10 X cl_50.1 cl_50.2 hi_3406 dX7_first_62 ?_
        refine j_eqr (v := (51 + i5.toNatClampNeg)) (re_50 hi_3406) ?_
        have hk_3407 := rc_50 hi_3406
        refine j_iconst X (v := 1) (by decide) dX7_first_63 ?_
        refine j_putN X (up M3405 (51 + i5.toNatClampNeg) 6 1) up_o hk_3407.1 (wE_1 _ hk_3407.2) rfl awF1 6 (by decide) (wP_1_6 _ _ hk_3407.2) tyX1 tyX1_ok nmX1 rfl (ty := .boolean) (by decide +kernel) rfl rfl (Nat.le_of_ble_eq_true rfl) (List.mem_of_getElem? (i := 12) rfl) rfl dX7_first_64 ?_
        refine j_aload_n X 0 rfl rfl dX7_first_67 ?_
        refine j_iload_n X 1 rfl rfl dX7_first_68 ?_
        refine j_callVV X (nn := 1) (As := [.int i1]) (st := []) (ci := 7) cl_0.1 (wE_7 _ cl_0.2) rfl aw_626 aw_627 (x_X7_thinkDaysWithHarm l D y ad i1 _ _ h) aw_625 aw_628 aw_2 (by decide +kernel) ⟨Nat.le_of_ble_eq_true rfl, Nat.le_of_ble_eq_true rfl⟩ rfl (Nat.le_of_ble_eq_true rfl) ⟨Nat.le_of_ble_eq_true rfl, Nat.le_of_ble_eq_true rfl⟩ dX7_first_69 ?_
        intro M3408 h
        refine j_iload_n X 3 rfl rfl dX7_first_72 ?_
        refine j_if_lt X 88 (by decide) dX7_first_73 (fun q_3409 => ?_) (fun q_3409 => ?_)
        · replace h := h.1 q_3409
          refine j_iload X 5 rfl dX7_first_88 ?_
          refine j_istore_n X [(3, .int i5), (0, .ref (ad 0)), (1, .int i1), (2, .int i2), (4, .int i4), (5, .int i5)] rfl (by decide) rfl dX7_first_90 ?_
          refine j_aload_n X 1 rfl rfl dX7_first_91 ?_
          refine j_get X cl_0.1 (wE_7 _ cl_0.2) rfl awF7 2 (by decide) aw_21 rfl (v := .ref (ad 49)) rfl dX7_first_92 ?_
          refine j_getN X cl_49.1 (wE_0 _ cl_49.2) rfl awF0 7 (by decide) (List.mem_of_getElem? (i := 19) rfl) rfl (v := .int (M3408 49 7)) rfl dX7_first_95 ?_
          refine j_istore X [(4, .int (M3408 49 7)), (3, .int i5), (0, .ref (ad 0)), (1, .int i1), (2, .int i2), (5, .int i5)] (by decide) rfl dX7_first_98 ?_
          refine j_iinc X (v := (i5 + 1)) 5 [(5, .int (i5 + 1)), (4, .int (M3408 49 7)), (3, .int i5), (0, .ref (ad 0)), (1, .int i1), (2, .int i2)] rfl rfl (by decide) rfl dX7_first_100 ?_
          refine j_goto X 34 (by decide) dX7_first_103 ?_
          refine j_lv (lv1 := [(0, .ref (ad 0)), (1, .int i1), (2, .int i2), (3, .int i5), (4, .int (M3408 49 7)), (5, .int (i5 + 1))]) [3, 4, 5, 2, 1, 0] rfl ?_
          exact hB34 _ _ _ _ h
        · replace h := h.2 q_3409
          refine j_aload_n X 0 rfl rfl dX7_first_76 ?_
          refine j_get X cl_0.1 (wE_7 _ cl_0.2) rfl awF7 2 (by decide) aw_21 rfl (v := .ref (ad 49)) rfl dX7_first_77 ?_
          refine j_getN X cl_49.1 (wE_0 _ cl_49.2) rfl awF0 7 (by decide) (List.mem_of_getElem? (i := 19) rfl) rfl (v := .int (M3408 49 7)) rfl dX7_first_80 ?_
          refine j_iload X 4 rfl dX7_first_83 ?_
          refine j_icmp_ge X 100 (by decide) dX7_first_85 (fun q_3410 => ?_) (fun q_3410 => ?_)
          · replace h := h.1 q_3410
            refine j_iinc X (v := (i5 + 1)) 5 [(5, .int (i5 + 1)), (0, .ref (ad 0)), (1, .int i1), (2, .int i2), (3, .int i3), (4, .int i4)] rfl rfl (by decide) rfl dX7_first_100 ?_
            refine j_goto X 34 (by decide) dX7_first_103 ?_
            refine j_lv (lv1 := [(0, .ref (ad 0)), (1, .int i1), (2, .int i2), (3, .int i3), (4, .int i4), (5, .int (i5 + 1))]) [1, 2, 3, 4, 5, 0] rfl ?_
            exact hB34 _ _ _ _ h
          · replace h := h.2 q_3410
            refine j_iload X 5 rfl dX7_first_88 ?_
            refine j_istore_n X [(3, .int i5), (0, .ref (ad 0)), (1, .int i1), (2, .int i2), (4, .int i4), (5, .int i5)] rfl (by decide) rfl dX7_first_90 ?_
            refine j_aload_n X 1 rfl rfl dX7_first_91 ?_
            refine j_get X cl_0.1 (wE_7 _ cl_0.2) rfl awF7 2 (by decide) aw_21 rfl (v := .ref (ad 49)) rfl dX7_first_92 ?_
            refine j_getN X cl_49.1 (wE_0 _ cl_49.2) rfl awF0 7 (by decide) (List.mem_of_getElem? (i := 19) rfl) rfl (v := .int (M3408 49 7)) rfl dX7_first_95 ?_
            refine j_istore X [(4, .int (M3408 49 7)), (3, .int i5), (0, .ref (ad 0)), (1, .int i1), (2, .int i2), (5, .int i5)] (by decide) rfl dX7_first_98 ?_
            refine j_iinc X (v := (i5 + 1)) 5 [(5, .int (i5 + 1)), (4, .int (M3408 49 7)), (3, .int i5), (0, .ref (ad 0)), (1, .int i1), (2, .int i2)] rfl rfl (by decide) rfl dX7_first_100 ?_
            refine j_goto X 34 (by decide) dX7_first_103 ?_
            refine j_lv (lv1 := [(0, .ref (ad 0)), (1, .int i1), (2, .int i2), (3, .int i5), (4, .int (M3408 49 7)), (5, .int (i5 + 1))]) [3, 4, 5, 2, 1, 0] rfl ?_
            exact hB34 _ _ _ _ h
  delta wp_X7_first at h
  refine j_lv (lv1 := [(0, .ref (ad 0)), (1, .int i1), (2, .int i2)]) [0, 1, 2] rfl ?_
  refine j_iload_n X 1 rfl rfl dX7_first_0 ?_
  refine j_iconst X (v := 0) (by decide) dX7_first_1 ?_
  refine j_bipush X (v := 60) (by decide) dX7_first_2 ?_
  refine j_callSI X (nn := 3) (As := [.int i1, .int 0, .int 60]) (st := []) aw_110 (x_X7_isWithin l D y ad i1 0 60 _ _ h) aw_109 aw_111 aw_2 (by decide +kernel) ⟨Nat.le_of_ble_eq_true rfl, Nat.le_of_ble_eq_true rfl⟩ rfl (Nat.le_of_ble_eq_true rfl) ⟨Nat.le_of_ble_eq_true rfl, Nat.le_of_ble_eq_true rfl⟩ dX7_first_4 ?_
  intro r1 M1 h
  refine j_if_eq X 19 (by decide) dX7_first_7 (fun q_2 => ?_) (fun q_2 => ?_)
  · replace h := h.1 q_2
    refine j_aload_n X 0 rfl rfl dX7_first_19 ?_
    refine j_ldc X (v := (-1000000001)) aw_108 dX7_first_20 ?_
    refine j_callVI X (nn := 1) (As := [.int (-1000000001)]) (st := []) (ci := 7) cl_0.1 (wE_7 _ cl_0.2) rfl aw_117 aw_118 (x_X7_refuse l D y ad (-1000000001) _ _ h) aw_116 aw_119 aw_2 (by decide +kernel) ⟨Nat.le_of_ble_eq_true rfl, Nat.le_of_ble_eq_true rfl⟩ rfl (Nat.le_of_ble_eq_true rfl) ⟨Nat.le_of_ble_eq_true rfl, Nat.le_of_ble_eq_true rfl⟩ dX7_first_22 ?_
    intro r3 M3 h
    exact j_iret X hr hlocks dX7_first_25 h
  · replace h := h.2 q_2
    refine j_iload_n X 2 rfl rfl dX7_first_10 ?_
    refine j_iconst X (v := 0) (by decide) dX7_first_11 ?_
    refine j_iconst X (v := 1) (by decide) dX7_first_12 ?_
    refine j_callSI X (nn := 3) (As := [.int i2, .int 0, .int 1]) (st := []) aw_110 (x_X7_isWithin l D y ad i2 0 1 _ _ h) aw_109 aw_111 aw_2 (by decide +kernel) ⟨Nat.le_of_ble_eq_true rfl, Nat.le_of_ble_eq_true rfl⟩ rfl (Nat.le_of_ble_eq_true rfl) ⟨Nat.le_of_ble_eq_true rfl, Nat.le_of_ble_eq_true rfl⟩ dX7_first_13 ?_
    intro r4 M4 h
    refine j_if_ne X 26 (by decide) dX7_first_16 (fun q_5 => ?_) (fun q_5 => ?_)
    · replace h := h.1 q_5
      refine j_iconst X (v := (-1)) (by decide) dX7_first_26 ?_
      refine j_istore_n X [(3, .int (-1)), (0, .ref (ad 0)), (1, .int i1), (2, .int i2)] rfl (by decide) rfl dX7_first_27 ?_
      refine j_iconst X (v := 0) (by decide) dX7_first_28 ?_
      refine j_istore X [(4, .int 0), (3, .int (-1)), (0, .ref (ad 0)), (1, .int i1), (2, .int i2)] (by decide) rfl dX7_first_29 ?_
      refine j_iconst X (v := 0) (by decide) dX7_first_31 ?_
      refine j_istore X [(5, .int 0), (4, .int 0), (3, .int (-1)), (0, .ref (ad 0)), (1, .int i1), (2, .int i2)] (by decide) rfl dX7_first_32 ?_
      refine j_lv (lv1 := [(0, .ref (ad 0)), (1, .int i1), (2, .int i2), (3, .int (-1)), (4, .int 0), (5, .int 0)]) [3, 4, 5, 2, 1, 0] rfl ?_
      obtain ⟨n34, h⟩ := h
      exact hL34 _ _   n34 _ _ _ _ h
    · replace h := h.2 q_5
      refine j_aload_n X 0 rfl rfl dX7_first_19 ?_
      refine j_ldc X (v := (-1000000001)) aw_108 dX7_first_20 ?_
      refine j_callVI X (nn := 1) (As := [.int (-1000000001)]) (st := []) (ci := 7) cl_0.1 (wE_7 _ cl_0.2) rfl aw_117 aw_118 (x_X7_refuse l D y ad (-1000000001) _ _ h) aw_116 aw_119 aw_2 (by decide +kernel) ⟨Nat.le_of_ble_eq_true rfl, Nat.le_of_ble_eq_true rfl⟩ rfl (Nat.le_of_ble_eq_true rfl) ⟨Nat.le_of_ble_eq_true rfl, Nat.le_of_ble_eq_true rfl⟩ dX7_first_22 ?_
      intro r6 M6 h
      exact j_iret X hr hlocks dX7_first_25 h
theorem dX7_isSheet_0 : decode cX7_isSheet 0 = .ok (.iload_n 0, 1) := dk_26 (by decide +kernel)
theorem dX7_isSheet_1 : decode cX7_isSheet 1 = .ok (.iconst 0, 1) := dk_3 (by decide +kernel)
theorem dX7_isSheet_2 : decode cX7_isSheet 2 = .ok (.iconst 3, 1) := dk_6 (by decide +kernel)
theorem dX7_isSheet_3 : decode cX7_isSheet 3 = .ok (.invokestatic 60, 3) := dk_184 (by decide +kernel)
theorem dX7_isSheet_6 : decode cX7_isSheet 6 = .ok (.ireturn, 1) := dk_172 (by decide +kernel)
set_option maxRecDepth 100000 in
set_option maxHeartbeats 8000000 in
theorem x_X7_isSheet (l : Launch) (D : va_G) (y : wY) (ad : Nat → Nat) (i0 : Int32) (M : Mem) (K : Int32 → Mem → Prop) (h : wp_X7_isSheet i0 M K) : MI l D y ad yX7_isSheet (Cond.code yX7_isSheet cX7_isSheet 1 (some .boolean)) 1 M [.int i0] K := by
  refine MI_of (by decide) (Nat.le_of_ble_eq_true rfl) ?_
  intro p e s m args below meth c X hr hlocks
  delta wp_X7_isSheet at h
  refine j_lv (lv1 := [(0, .int i0)]) [0] rfl ?_
  refine j_iload_n X 0 rfl rfl dX7_isSheet_0 ?_
  refine j_iconst X (v := 0) (by decide) dX7_isSheet_1 ?_
  refine j_iconst X (v := 3) (by decide) dX7_isSheet_2 ?_
  refine j_callSI X (nn := 3) (As := [.int i0, .int 0, .int 3]) (st := []) aw_110 (x_X7_isWithin l D y ad i0 0 3 _ _ h) aw_109 aw_111 aw_2 (by decide +kernel) ⟨Nat.le_of_ble_eq_true rfl, Nat.le_of_ble_eq_true rfl⟩ rfl (Nat.le_of_ble_eq_true rfl) ⟨Nat.le_of_ble_eq_true rfl, Nat.le_of_ble_eq_true rfl⟩ dX7_isSheet_3 ?_
  intro r1 M1 h
  obtain ⟨hb_2, h⟩ := h
  exact j_zret X hr hlocks hb_2 dX7_isSheet_6 h
