theorem dX8_areEdgesSo_9 : decode cX8_areEdgesSo 9 = .ok (.iload_n 3, 1) := dk_29 (by decide +kernel)
theorem dX8_areEdgesSo_10 : decode cX8_areEdgesSo 10 = .ok (.aload_n 0, 1) := dk_42 (by decide +kernel)
theorem dX8_areEdgesSo_11 : decode cX8_areEdgesSo 11 = .ok (.getfield 7, 3) := dk_180 (by decide +kernel)
theorem dX8_areEdgesSo_14 : decode cX8_areEdgesSo 14 = .ok (.iconst 2, 1) := dk_5 (by decide +kernel)
theorem dX8_areEdgesSo_15 : decode cX8_areEdgesSo 15 = .ok (.iaload, 1) := dk_46 (by decide +kernel)
theorem dX8_areEdgesSo_16 : decode cX8_areEdgesSo 16 = .ok (.if_icmp .ge 39, 3) := dk_162 (by decide +kernel)
theorem dX8_areEdgesSo_55 : decode cX8_areEdgesSo 55 = .ok (.iload_n 2, 1) := dk_28 (by decide +kernel)
theorem dX8_areEdgesSo_56 : decode cX8_areEdgesSo 56 = .ok (.ireturn, 1) := dk_172 (by decide +kernel)
theorem dX8_areEdgesSo_19 : decode cX8_areEdgesSo 19 = .ok (.iload_n 2, 1) := dk_28 (by decide +kernel)
theorem dX8_areEdgesSo_20 : decode cX8_areEdgesSo 20 = .ok (.ifCond .eq 27, 3) := dk_153 (by decide +kernel)
theorem dX8_areEdgesSo_47 : decode cX8_areEdgesSo 47 = .ok (.iconst 0, 1) := dk_3 (by decide +kernel)
theorem dX8_areEdgesSo_48 : decode cX8_areEdgesSo 48 = .ok (.istore_n 2, 1) := dk_61 (by decide +kernel)
theorem dX8_areEdgesSo_49 : decode cX8_areEdgesSo 49 = .ok (.iinc 3 1, 3) := dk_132 (by decide +kernel)
theorem dX8_areEdgesSo_52 : decode cX8_areEdgesSo 52 = .ok (.goto (-43), 3) := dk_167 (by decide +kernel)
theorem dX8_areEdgesSo_23 : decode cX8_areEdgesSo 23 = .ok (.aload_n 0, 1) := dk_42 (by decide +kernel)
theorem dX8_areEdgesSo_24 : decode cX8_areEdgesSo 24 = .ok (.iload_n 3, 1) := dk_29 (by decide +kernel)
theorem dX8_areEdgesSo_25 : decode cX8_areEdgesSo 25 = .ok (.iconst 3, 1) := dk_6 (by decide +kernel)
theorem dX8_areEdgesSo_26 : decode cX8_areEdgesSo 26 = .ok (.invokevirtual 65, 3) := dk_182 (by decide +kernel)
theorem dX8_areEdgesSo_29 : decode cX8_areEdgesSo 29 = .ok (.aload_n 0, 1) := dk_42 (by decide +kernel)
theorem dX8_areEdgesSo_30 : decode cX8_areEdgesSo 30 = .ok (.getfield 37, 3) := dk_180 (by decide +kernel)
theorem dX8_areEdgesSo_33 : decode cX8_areEdgesSo 33 = .ok (.bipush 40, 2) := dk_16 (by decide +kernel)
theorem dX8_areEdgesSo_35 : decode cX8_areEdgesSo 35 = .ok (.iload_n 1, 1) := dk_27 (by decide +kernel)
theorem dX8_areEdgesSo_36 : decode cX8_areEdgesSo 36 = .ok (.imul, 1) := dk_104 (by decide +kernel)
theorem dX8_areEdgesSo_37 : decode cX8_areEdgesSo 37 = .ok (.iload_n 3, 1) := dk_29 (by decide +kernel)
theorem dX8_areEdgesSo_38 : decode cX8_areEdgesSo 38 = .ok (.iadd, 1) := dk_96 (by decide +kernel)
theorem dX8_areEdgesSo_39 : decode cX8_areEdgesSo 39 = .ok (.iaload, 1) := dk_46 (by decide +kernel)
theorem dX8_areEdgesSo_40 : decode cX8_areEdgesSo 40 = .ok (.if_icmp .ne 7, 3) := dk_160 (by decide +kernel)
theorem dX8_areEdgesSo_43 : decode cX8_areEdgesSo 43 = .ok (.iconst 1, 1) := dk_4 (by decide +kernel)
theorem dX8_areEdgesSo_44 : decode cX8_areEdgesSo 44 = .ok (.goto 4, 3) := dk_167 (by decide +kernel)
theorem dX8_areEdgesSo_0 : decode cX8_areEdgesSo 0 = .ok (.iconst 1, 1) := dk_4 (by decide +kernel)
theorem dX8_areEdgesSo_1 : decode cX8_areEdgesSo 1 = .ok (.istore_n 2, 1) := dk_61 (by decide +kernel)
theorem dX8_areEdgesSo_2 : decode cX8_areEdgesSo 2 = .ok (.aload_n 0, 1) := dk_42 (by decide +kernel)
theorem dX8_areEdgesSo_3 : decode cX8_areEdgesSo 3 = .ok (.iconst 1, 1) := dk_4 (by decide +kernel)
theorem dX8_areEdgesSo_4 : decode cX8_areEdgesSo 4 = .ok (.invokevirtual 171, 3) := dk_182 (by decide +kernel)
theorem dX8_areEdgesSo_7 : decode cX8_areEdgesSo 7 = .ok (.iconst 0, 1) := dk_3 (by decide +kernel)
theorem dX8_areEdgesSo_8 : decode cX8_areEdgesSo 8 = .ok (.istore_n 3, 1) := dk_62 (by decide +kernel)
set_option maxRecDepth 100000 in
set_option maxHeartbeats 8000000 in
theorem x_X8_areEdgesSo (l : Launch) (D : va_G) (y : wY) (ad : Nat → Nat) (i1 : Int32) (M : Mem) (K : Int32 → Mem → Prop) (h : wp_X8_areEdgesSo i1 M K) : MI l D y ad yX8_areEdgesSo (Cond.code yX8_areEdgesSo cX8_areEdgesSo 4 (some .boolean)) 6 M [.ref (ad 79), .int i1] K := by
  refine MI_of (by decide) (Nat.le_of_ble_eq_true rfl) ?_
  intro p e s m args below meth c X hr hlocks
  have hL9 : ∀ (i1 : Int32) (n : Nat) (i2 : Int32) (i3 : Int32) (Mb : Mem), wp_X8_areEdgesSo_L9 K i1 n i2 i3 Mb → J p l e (rmN 6) s m args below meth c 0 0 (QI K D y ad M s args below) D y ad (va_A (PL y ad M) s.heap.size) 4 Mb 9 [(0, .ref (ad 79)), (1, .int i1), (2, .int i2), (3, .int i3)] [] := by
    intro i1 n
    induction n with
    | zero => intro i2 i3 Mb h; exact False.elim h
    | succ n hB9 =>
      intro i2 i3 Mb h
      replace h : wp_X8_areEdgesSo_l9 K i1 (wp_X8_areEdgesSo_L9 K i1 n) i2 i3 Mb := h
      delta wp_X8_areEdgesSo_l9 at h
      refine j_iload_n X 3 rfl rfl dX8_areEdgesSo_9 ?_
      refine j_aload_n X 0 rfl rfl dX8_areEdgesSo_10 ?_
      refine j_get X cl_79.1 (wE_8 _ cl_79.2) rfl awF8 0 (by decide) aw_92 rfl (v := .ref (ad 80)) rfl dX8_areEdgesSo_11 ?_
      refine j_iconst X (v := 2) (by decide) dX8_areEdgesSo_14 ?_
      refine j_iald X cl_80.1 cl_80.2 (by unfold vp_in; decide) dX8_areEdgesSo_15 ?_
      refine j_eqi (v := Mb 80 2) rfl ?_
      refine j_icmp_ge X 55 (by decide) dX8_areEdgesSo_16 (fun q_901 => ?_) (fun q_901 => ?_)
      · replace h := h.1 q_901
        refine j_iload_n X 2 rfl rfl dX8_areEdgesSo_55 ?_
        obtain ⟨hb_902, h⟩ := h
        exact j_zret X hr hlocks hb_902 dX8_areEdgesSo_56 h
      · replace h := h.2 q_901
        refine j_iload_n X 2 rfl rfl dX8_areEdgesSo_19 ?_
        refine j_if_eq X 47 (by decide) dX8_areEdgesSo_20 (fun q_903 => ?_) (fun q_903 => ?_)
        · replace h := h.1 q_903
          refine j_iconst X (v := 0) (by decide) dX8_areEdgesSo_47 ?_
          refine j_istore_n X [(2, .int 0), (0, .ref (ad 79)), (1, .int i1), (3, .int i3)] rfl (by decide) rfl dX8_areEdgesSo_48 ?_
          refine j_iinc X (v := (i3 + 1)) 3 [(3, .int (i3 + 1)), (2, .int 0), (0, .ref (ad 79)), (1, .int i1)] rfl rfl (by decide) rfl dX8_areEdgesSo_49 ?_
          refine j_goto X 9 (by decide) dX8_areEdgesSo_52 ?_
          refine j_lv (lv1 := [(0, .ref (ad 79)), (1, .int i1), (2, .int 0), (3, .int (i3 + 1))]) [2, 3, 1, 0] rfl ?_
          exact hB9 _ _ _ h
        · replace h := h.2 q_903
          refine j_aload_n X 0 rfl rfl dX8_areEdgesSo_23 ?_
          refine j_iload_n X 3 rfl rfl dX8_areEdgesSo_24 ?_
          refine j_iconst X (v := 3) (by decide) dX8_areEdgesSo_25 ?_
          refine j_callVI X (nn := 2) (As := [.int i3, .int 3]) (st := []) (ci := 8) cl_79.1 (wE_8 _ cl_79.2) rfl aw_161 aw_162 (x_X8_its l D y ad i3 3 _ _ h) aw_160 aw_163 aw_5 (by decide +kernel) ⟨Nat.le_of_ble_eq_true rfl, Nat.le_of_ble_eq_true rfl⟩ rfl (Nat.le_of_ble_eq_true rfl) ⟨Nat.le_of_ble_eq_true rfl, Nat.le_of_ble_eq_true rfl⟩ dX8_areEdgesSo_26 ?_
          intro r904 M904 h
          refine j_aload_n X 0 rfl rfl dX8_areEdgesSo_29 ?_
          refine j_get X cl_79.1 (wE_8 _ cl_79.2) rfl awF8 17 (by decide) aw_101 rfl (v := .ref (ad 89)) rfl dX8_areEdgesSo_30 ?_
          refine j_bipush X (v := 40) (by decide) dX8_areEdgesSo_33 ?_
          refine j_iload_n X 1 rfl rfl dX8_areEdgesSo_35 ?_
          refine j_imul X dX8_areEdgesSo_36 ?_
          refine j_iload_n X 3 rfl rfl dX8_areEdgesSo_37 ?_
          refine j_iadd X dX8_areEdgesSo_38 ?_
          obtain ⟨hi_905, h⟩ := h
          refine j_iald X cl_89.1 cl_89.2 hi_905 dX8_areEdgesSo_39 ?_
          refine j_icmp_ne X 47 (by decide) dX8_areEdgesSo_40 (fun q_906 => ?_) (fun q_906 => ?_)
          · replace h := h.1 q_906
            refine j_iconst X (v := 0) (by decide) dX8_areEdgesSo_47 ?_
            refine j_istore_n X [(2, .int 0), (0, .ref (ad 79)), (1, .int i1), (3, .int i3)] rfl (by decide) rfl dX8_areEdgesSo_48 ?_
            refine j_iinc X (v := (i3 + 1)) 3 [(3, .int (i3 + 1)), (2, .int 0), (0, .ref (ad 79)), (1, .int i1)] rfl rfl (by decide) rfl dX8_areEdgesSo_49 ?_
            refine j_goto X 9 (by decide) dX8_areEdgesSo_52 ?_
            refine j_lv (lv1 := [(0, .ref (ad 79)), (1, .int i1), (2, .int 0), (3, .int (i3 + 1))]) [2, 3, 1, 0] rfl ?_
            exact hB9 _ _ _ h
          · replace h := h.2 q_906
            refine j_iconst X (v := 1) (by decide) dX8_areEdgesSo_43 ?_
            refine j_goto X 48 (by decide) dX8_areEdgesSo_44 ?_
            refine j_istore_n X [(2, .int 1), (0, .ref (ad 79)), (1, .int i1), (3, .int i3)] rfl (by decide) rfl dX8_areEdgesSo_48 ?_
            refine j_iinc X (v := (i3 + 1)) 3 [(3, .int (i3 + 1)), (2, .int 1), (0, .ref (ad 79)), (1, .int i1)] rfl rfl (by decide) rfl dX8_areEdgesSo_49 ?_
            refine j_goto X 9 (by decide) dX8_areEdgesSo_52 ?_
            refine j_lv (lv1 := [(0, .ref (ad 79)), (1, .int i1), (2, .int 1), (3, .int (i3 + 1))]) [2, 3, 1, 0] rfl ?_
            exact hB9 _ _ _ h
  delta wp_X8_areEdgesSo at h
  refine j_lv (lv1 := [(0, .ref (ad 79)), (1, .int i1)]) [0, 1] rfl ?_
  refine j_iconst X (v := 1) (by decide) dX8_areEdgesSo_0 ?_
  refine j_istore_n X [(2, .int 1), (0, .ref (ad 79)), (1, .int i1)] rfl (by decide) rfl dX8_areEdgesSo_1 ?_
  refine j_aload_n X 1 rfl rfl dX8_areEdgesSo_2 ?_
  refine j_iconst X (v := 1) (by decide) dX8_areEdgesSo_3 ?_
  refine j_callVV X (nn := 1) (As := [.int 1]) (st := []) (ci := 8) cl_79.1 (wE_8 _ cl_79.2) rfl aw_486 aw_487 (x_X8_oneDay l D y ad 1 _ _ h) aw_485 aw_488 aw_5 (by decide +kernel) ⟨Nat.le_of_ble_eq_true rfl, Nat.le_of_ble_eq_true rfl⟩ rfl (Nat.le_of_ble_eq_true rfl) ⟨Nat.le_of_ble_eq_true rfl, Nat.le_of_ble_eq_true rfl⟩ dX8_areEdgesSo_4 ?_
  intro M1 h
  refine j_iconst X (v := 0) (by decide) dX8_areEdgesSo_7 ?_
  refine j_istore_n X [(3, .int 0), (2, .int 1), (0, .ref (ad 79)), (1, .int i1)] rfl (by decide) rfl dX8_areEdgesSo_8 ?_
  refine j_lv (lv1 := [(0, .ref (ad 79)), (1, .int i1), (2, .int 1), (3, .int 0)]) [2, 3, 1, 0] rfl ?_
  obtain ⟨n9, h⟩ := h
  exact hL9 _   n9 _ _ _ h
theorem dX8_sparks_71 : decode cX8_sparks 71 = .ok (.iload 4, 2) := dk_21 (by decide +kernel)
theorem dX8_sparks_73 : decode cX8_sparks 73 = .ok (.bipush 10, 2) := dk_16 (by decide +kernel)
theorem dX8_sparks_75 : decode cX8_sparks 75 = .ok (.if_icmp .ge 49, 3) := dk_162 (by decide +kernel)
theorem dX8_sparks_124 : decode cX8_sparks 124 = .ok (.iload_n 2, 1) := dk_28 (by decide +kernel)
theorem dX8_sparks_125 : decode cX8_sparks 125 = .ok (.ifCond .ne 7, 3) := dk_154 (by decide +kernel)
theorem dX8_sparks_132 : decode cX8_sparks 132 = .ok (.iload_n 3, 1) := dk_29 (by decide +kernel)
theorem dX8_sparks_133 : decode cX8_sparks 133 = .ok (.invokestatic 187, 3) := dk_184 (by decide +kernel)
theorem dX8_sparks_136 : decode cX8_sparks 136 = .ok (.ireturn, 1) := dk_172 (by decide +kernel)
theorem dX8_sparks_128 : decode cX8_sparks 128 = .ok (.iload_n 3, 1) := dk_29 (by decide +kernel)
theorem dX8_sparks_129 : decode cX8_sparks 129 = .ok (.goto 7, 3) := dk_167 (by decide +kernel)
theorem dX8_sparks_78 : decode cX8_sparks 78 = .ok (.aload_n 0, 1) := dk_42 (by decide +kernel)
theorem dX8_sparks_79 : decode cX8_sparks 79 = .ok (.getfield 7, 3) := dk_180 (by decide +kernel)
theorem dX8_sparks_82 : decode cX8_sparks 82 = .ok (.bipush 7, 2) := dk_16 (by decide +kernel)
theorem dX8_sparks_84 : decode cX8_sparks 84 = .ok (.iload 4, 2) := dk_21 (by decide +kernel)
theorem dX8_sparks_86 : decode cX8_sparks 86 = .ok (.iastore, 1) := dk_79 (by decide +kernel)
theorem dX8_sparks_87 : decode cX8_sparks 87 = .ok (.iload_n 3, 1) := dk_29 (by decide +kernel)
theorem dX8_sparks_88 : decode cX8_sparks 88 = .ok (.aload_n 0, 1) := dk_42 (by decide +kernel)
theorem dX8_sparks_89 : decode cX8_sparks 89 = .ok (.iload_n 1, 1) := dk_27 (by decide +kernel)
theorem dX8_sparks_90 : decode cX8_sparks 90 = .ok (.invokevirtual 208, 3) := dk_182 (by decide +kernel)
theorem dX8_sparks_93 : decode cX8_sparks 93 = .ok (.ifCond .eq 10, 3) := dk_153 (by decide +kernel)
theorem dX8_sparks_103 : decode cX8_sparks 103 = .ok (.iconst 0, 1) := dk_3 (by decide +kernel)
theorem dX8_sparks_104 : decode cX8_sparks 104 = .ok (.ior, 1) := dk_128 (by decide +kernel)
theorem dX8_sparks_105 : decode cX8_sparks 105 = .ok (.istore_n 3, 1) := dk_62 (by decide +kernel)
theorem dX8_sparks_106 : decode cX8_sparks 106 = .ok (.aload_n 0, 1) := dk_42 (by decide +kernel)
theorem dX8_sparks_107 : decode cX8_sparks 107 = .ok (.aload_n 0, 1) := dk_42 (by decide +kernel)
theorem dX8_sparks_108 : decode cX8_sparks 108 = .ok (.getfield 16, 3) := dk_180 (by decide +kernel)
theorem dX8_sparks_111 : decode cX8_sparks 111 = .ok (.aload_n 0, 1) := dk_42 (by decide +kernel)
theorem dX8_sparks_112 : decode cX8_sparks 112 = .ok (.getfield 7, 3) := dk_180 (by decide +kernel)
theorem dX8_sparks_115 : decode cX8_sparks 115 = .ok (.invokevirtual 175, 3) := dk_182 (by decide +kernel)
theorem dX8_sparks_118 : decode cX8_sparks 118 = .ok (.iinc 4 1, 3) := dk_132 (by decide +kernel)
theorem dX8_sparks_121 : decode cX8_sparks 121 = .ok (.goto (-50), 3) := dk_167 (by decide +kernel)
theorem dX8_sparks_96 : decode cX8_sparks 96 = .ok (.iconst 1, 1) := dk_4 (by decide +kernel)
theorem dX8_sparks_97 : decode cX8_sparks 97 = .ok (.iload 4, 2) := dk_21 (by decide +kernel)
theorem dX8_sparks_99 : decode cX8_sparks 99 = .ok (.ishl, 1) := dk_120 (by decide +kernel)
theorem dX8_sparks_100 : decode cX8_sparks 100 = .ok (.goto 4, 3) := dk_167 (by decide +kernel)
theorem dX8_sparks_0 : decode cX8_sparks 0 = .ok (.iload_n 1, 1) := dk_27 (by decide +kernel)
theorem dX8_sparks_1 : decode cX8_sparks 1 = .ok (.invokestatic 205, 3) := dk_184 (by decide +kernel)
theorem dX8_sparks_4 : decode cX8_sparks 4 = .ok (.ifCond .eq 12, 3) := dk_153 (by decide +kernel)
theorem dX8_sparks_16 : decode cX8_sparks 16 = .ok (.aload_n 0, 1) := dk_42 (by decide +kernel)
theorem dX8_sparks_17 : decode cX8_sparks 17 = .ok (.ldc 60, 2) := dk_18 (by decide +kernel)
theorem dX8_sparks_19 : decode cX8_sparks 19 = .ok (.invokevirtual 61, 3) := dk_182 (by decide +kernel)
theorem dX8_sparks_22 : decode cX8_sparks 22 = .ok (.ireturn, 1) := dk_172 (by decide +kernel)
theorem dX8_sparks_7 : decode cX8_sparks 7 = .ok (.iload_n 2, 1) := dk_28 (by decide +kernel)
theorem dX8_sparks_8 : decode cX8_sparks 8 = .ok (.iconst 0, 1) := dk_3 (by decide +kernel)
theorem dX8_sparks_9 : decode cX8_sparks 9 = .ok (.iconst 1, 1) := dk_4 (by decide +kernel)
theorem dX8_sparks_10 : decode cX8_sparks 10 = .ok (.invokestatic 47, 3) := dk_184 (by decide +kernel)
theorem dX8_sparks_13 : decode cX8_sparks 13 = .ok (.ifCond .ne 10, 3) := dk_154 (by decide +kernel)
theorem dX8_sparks_23 : decode cX8_sparks 23 = .ok (.aload_n 0, 1) := dk_42 (by decide +kernel)
theorem dX8_sparks_24 : decode cX8_sparks 24 = .ok (.getfield 31, 3) := dk_180 (by decide +kernel)
theorem dX8_sparks_27 : decode cX8_sparks 27 = .ok (.iload_n 1, 1) := dk_27 (by decide +kernel)
theorem dX8_sparks_28 : decode cX8_sparks 28 = .ok (.iaload, 1) := dk_46 (by decide +kernel)
theorem dX8_sparks_29 : decode cX8_sparks 29 = .ok (.ifCond .eq 18, 3) := dk_153 (by decide +kernel)
theorem dX8_sparks_47 : decode cX8_sparks 47 = .ok (.aload_n 0, 1) := dk_42 (by decide +kernel)
theorem dX8_sparks_48 : decode cX8_sparks 48 = .ok (.ldc 194, 2) := dk_18 (by decide +kernel)
theorem dX8_sparks_50 : decode cX8_sparks 50 = .ok (.invokevirtual 61, 3) := dk_182 (by decide +kernel)
theorem dX8_sparks_53 : decode cX8_sparks 53 = .ok (.ireturn, 1) := dk_172 (by decide +kernel)
theorem dX8_sparks_32 : decode cX8_sparks 32 = .ok (.aload_n 0, 1) := dk_42 (by decide +kernel)
theorem dX8_sparks_33 : decode cX8_sparks 33 = .ok (.getfield 34, 3) := dk_180 (by decide +kernel)
theorem dX8_sparks_36 : decode cX8_sparks 36 = .ok (.iload_n 1, 1) := dk_27 (by decide +kernel)
theorem dX8_sparks_37 : decode cX8_sparks 37 = .ok (.iaload, 1) := dk_46 (by decide +kernel)
theorem dX8_sparks_38 : decode cX8_sparks 38 = .ok (.aload_n 0, 1) := dk_42 (by decide +kernel)
theorem dX8_sparks_39 : decode cX8_sparks 39 = .ok (.getfield 7, 3) := dk_180 (by decide +kernel)
theorem dX8_sparks_42 : decode cX8_sparks 42 = .ok (.iconst 2, 1) := dk_5 (by decide +kernel)
theorem dX8_sparks_43 : decode cX8_sparks 43 = .ok (.iaload, 1) := dk_46 (by decide +kernel)
theorem dX8_sparks_44 : decode cX8_sparks 44 = .ok (.if_icmp .eq 10, 3) := dk_159 (by decide +kernel)
theorem dX8_sparks_54 : decode cX8_sparks 54 = .ok (.iconst 0, 1) := dk_3 (by decide +kernel)
theorem dX8_sparks_55 : decode cX8_sparks 55 = .ok (.istore_n 3, 1) := dk_62 (by decide +kernel)
theorem dX8_sparks_56 : decode cX8_sparks 56 = .ok (.aload_n 0, 1) := dk_42 (by decide +kernel)
theorem dX8_sparks_57 : decode cX8_sparks 57 = .ok (.aload_n 0, 1) := dk_42 (by decide +kernel)
theorem dX8_sparks_58 : decode cX8_sparks 58 = .ok (.getfield 7, 3) := dk_180 (by decide +kernel)
theorem dX8_sparks_61 : decode cX8_sparks 61 = .ok (.aload_n 0, 1) := dk_42 (by decide +kernel)
theorem dX8_sparks_62 : decode cX8_sparks 62 = .ok (.getfield 16, 3) := dk_180 (by decide +kernel)
theorem dX8_sparks_65 : decode cX8_sparks 65 = .ok (.invokevirtual 175, 3) := dk_182 (by decide +kernel)
theorem dX8_sparks_68 : decode cX8_sparks 68 = .ok (.iconst 0, 1) := dk_3 (by decide +kernel)
theorem dX8_sparks_69 : decode cX8_sparks 69 = .ok (.istore 4, 2) := dk_54 (by decide +kernel)
set_option maxRecDepth 100000 in
set_option maxHeartbeats 8000000 in
theorem x_X8_sparks (l : Launch) (D : va_G) (y : wY) (ad : Nat → Nat) (i1 : Int32) (i2 : Int32) (M : Mem) (K : Int32 → Mem → Prop) (h : wp_X8_sparks i1 i2 M K) : MI l D y ad yX8_sparks (Cond.code yX8_sparks cX8_sparks 5 (some .int)) 7 M [.ref (ad 79), .int i1, .int i2] K := by
  refine MI_of (by decide) (Nat.le_of_ble_eq_true rfl) ?_
  intro p e s m args below meth c X hr hlocks
  have hL71 : ∀ (i1 : Int32) (i2 : Int32) (n : Nat) (i3 : Int32) (i4 : Int32) (Mb : Mem), wp_X8_sparks_L71 K i1 i2 n i3 i4 Mb → J p l e (rmN 7) s m args below meth c 0 0 (QI K D y ad M s args below) D y ad (va_A (PL y ad M) s.heap.size) 5 Mb 71 [(0, .ref (ad 79)), (1, .int i1), (2, .int i2), (3, .int i3), (4, .int i4)] [] := by
    intro i1 i2 n
    induction n with
    | zero => intro i3 i4 Mb h; exact False.elim h
    | succ n hB71 =>
      intro i3 i4 Mb h
      replace h : wp_X8_sparks_l71 K i1 i2 (wp_X8_sparks_L71 K i1 i2 n) i3 i4 Mb := h
      delta wp_X8_sparks_l71 at h
      refine j_iload X 4 rfl dX8_sparks_71 ?_
      refine j_bipush X (v := 10) (by decide) dX8_sparks_73 ?_
      refine j_icmp_ge X 124 (by decide) dX8_sparks_75 (fun q_7101 => ?_) (fun q_7101 => ?_)
      · replace h := h.1 q_7101
        refine j_iload_n X 2 rfl rfl dX8_sparks_124 ?_
        refine j_if_ne X 132 (by decide) dX8_sparks_125 (fun q_7102 => ?_) (fun q_7102 => ?_)
        · replace h := h.1 q_7102
          refine j_iload_n X 3 rfl rfl dX8_sparks_132 ?_
          refine j_callSI X (nn := 1) (As := [.int i3]) (st := []) aw_510 (x_X8_bits l D y ad i3 _ _ h) aw_509 aw_511 aw_5 (by decide +kernel) ⟨Nat.le_of_ble_eq_true rfl, Nat.le_of_ble_eq_true rfl⟩ rfl (Nat.le_of_ble_eq_true rfl) ⟨Nat.le_of_ble_eq_true rfl, Nat.le_of_ble_eq_true rfl⟩ dX8_sparks_133 ?_
          intro r7103 M7103 h
          exact j_iret X hr hlocks dX8_sparks_136 h
        · replace h := h.2 q_7102
          refine j_iload_n X 3 rfl rfl dX8_sparks_128 ?_
          refine j_goto X 136 (by decide) dX8_sparks_129 ?_
          exact j_iret X hr hlocks dX8_sparks_136 h
      · replace h := h.2 q_7101
        refine j_aload_n X 0 rfl rfl dX8_sparks_78 ?_
        refine j_get X cl_79.1 (wE_8 _ cl_79.2) rfl awF8 0 (by decide) aw_92 rfl (v := .ref (ad 80)) rfl dX8_sparks_79 ?_
        refine j_bipush X (v := 7) (by decide) dX8_sparks_82 ?_
        refine j_iload X 4 rfl dX8_sparks_84 ?_
        refine j_iast X cl_80.1 cl_80.2 (by unfold vp_in; decide) dX8_sparks_86 ?_
        refine j_eqM (M1 := (up Mb 80 7 i4)) rfl ?_
        refine j_iload_n X 3 rfl rfl dX8_sparks_87 ?_
        refine j_aload_n X 0 rfl rfl dX8_sparks_88 ?_
        refine j_iload_n X 1 rfl rfl dX8_sparks_89 ?_
        refine j_callVI X (nn := 1) (As := [.int i1]) (st := [.int i3]) (ci := 8) cl_79.1 (wE_8 _ cl_79.2) rfl aw_656 aw_657 (x_X8_areEdgesSo l D y ad i1 _ _ h) aw_655 aw_658 aw_5 (by decide +kernel) ⟨Nat.le_of_ble_eq_true rfl, Nat.le_of_ble_eq_true rfl⟩ rfl (Nat.le_of_ble_eq_true rfl) ⟨Nat.le_of_ble_eq_true rfl, Nat.le_of_ble_eq_true rfl⟩ dX8_sparks_90 ?_
        intro r7104 M7104 h
        refine j_if_eq X 103 (by decide) dX8_sparks_93 (fun q_7105 => ?_) (fun q_7105 => ?_)
        · replace h := h.1 q_7105
          refine j_iconst X (v := 0) (by decide) dX8_sparks_103 ?_
          refine j_ior X dX8_sparks_104 ?_
          refine j_istore_n X [(3, .int (i3 ||| 0)), (0, .ref (ad 79)), (1, .int i1), (2, .int i2), (4, .int i4)] rfl (by decide) rfl dX8_sparks_105 ?_
          refine j_aload_n X 1 rfl rfl dX8_sparks_106 ?_
          refine j_aload_n X 1 rfl rfl dX8_sparks_107 ?_
          refine j_get X cl_79.1 (wE_8 _ cl_79.2) rfl awF8 2 (by decide) aw_94 rfl (v := .ref (ad 82)) rfl dX8_sparks_108 ?_
          refine j_aload_n X 1 rfl rfl dX8_sparks_111 ?_
          refine j_get X cl_79.1 (wE_8 _ cl_79.2) rfl awF8 0 (by decide) aw_92 rfl (v := .ref (ad 80)) rfl dX8_sparks_112 ?_
          refine j_callVV X (nn := 2) (As := [.ref (ad 82), .ref (ad 80)]) (st := []) (ci := 8) cl_79.1 (wE_8 _ cl_79.2) rfl aw_553 aw_554 (x_X8_moveAll l D y ad 82 80 cl_82 cl_80 _ _ h) aw_552 aw_555 aw_5 (by decide +kernel) ⟨Nat.le_of_ble_eq_true rfl, Nat.le_of_ble_eq_true rfl⟩ rfl (Nat.le_of_ble_eq_true rfl) ⟨Nat.le_of_ble_eq_true rfl, Nat.le_of_ble_eq_true rfl⟩ dX8_sparks_115 ?_
          intro M7106 h
          refine j_iinc X (v := (i4 + 1)) 4 [(4, .int (i4 + 1)), (3, .int (i3 ||| 0)), (0, .ref (ad 79)), (1, .int i1), (2, .int i2)] rfl rfl (by decide) rfl dX8_sparks_118 ?_
          refine j_goto X 71 (by decide) dX8_sparks_121 ?_
          refine j_lv (lv1 := [(0, .ref (ad 79)), (1, .int i1), (2, .int i2), (3, .int (i3 ||| 0)), (4, .int (i4 + 1))]) [2, 3, 4, 1, 0] rfl ?_
          exact hB71 _ _ _ h
        · replace h := h.2 q_7105
          refine j_iconst X (v := 1) (by decide) dX8_sparks_96 ?_
          refine j_iload X 4 rfl dX8_sparks_97 ?_
          refine j_ishl X dX8_sparks_99 ?_
          refine j_goto X 104 (by decide) dX8_sparks_100 ?_
          refine j_ior X dX8_sparks_104 ?_
          refine j_istore_n X [(3, .int (i3 ||| ((1 : Int32) <<< (i4 &&& 31)))), (0, .ref (ad 79)), (1, .int i1), (2, .int i2), (4, .int i4)] rfl (by decide) rfl dX8_sparks_105 ?_
          refine j_aload_n X 1 rfl rfl dX8_sparks_106 ?_
          refine j_aload_n X 1 rfl rfl dX8_sparks_107 ?_
          refine j_get X cl_79.1 (wE_8 _ cl_79.2) rfl awF8 2 (by decide) aw_94 rfl (v := .ref (ad 82)) rfl dX8_sparks_108 ?_
          refine j_aload_n X 1 rfl rfl dX8_sparks_111 ?_
          refine j_get X cl_79.1 (wE_8 _ cl_79.2) rfl awF8 0 (by decide) aw_92 rfl (v := .ref (ad 80)) rfl dX8_sparks_112 ?_
          refine j_callVV X (nn := 2) (As := [.ref (ad 82), .ref (ad 80)]) (st := []) (ci := 8) cl_79.1 (wE_8 _ cl_79.2) rfl aw_553 aw_554 (x_X8_moveAll l D y ad 82 80 cl_82 cl_80 _ _ h) aw_552 aw_555 aw_5 (by decide +kernel) ⟨Nat.le_of_ble_eq_true rfl, Nat.le_of_ble_eq_true rfl⟩ rfl (Nat.le_of_ble_eq_true rfl) ⟨Nat.le_of_ble_eq_true rfl, Nat.le_of_ble_eq_true rfl⟩ dX8_sparks_115 ?_
          intro M7107 h
          refine j_iinc X (v := (i4 + 1)) 4 [(4, .int (i4 + 1)), (3, .int (i3 ||| ((1 : Int32) <<< (i4 &&& 31)))), (0, .ref (ad 79)), (1, .int i1), (2, .int i2)] rfl rfl (by decide) rfl dX8_sparks_118 ?_
          refine j_goto X 71 (by decide) dX8_sparks_121 ?_
          refine j_lv (lv1 := [(0, .ref (ad 79)), (1, .int i1), (2, .int i2), (3, .int (i3 ||| ((1 : Int32) <<< (i4 &&& 31)))), (4, .int (i4 + 1))]) [2, 3, 4, 1, 0] rfl ?_
          exact hB71 _ _ _ h
  delta wp_X8_sparks at h
  refine j_lv (lv1 := [(0, .ref (ad 79)), (1, .int i1), (2, .int i2)]) [0, 1, 2] rfl ?_
  refine j_iload_n X 1 rfl rfl dX8_sparks_0 ?_
  refine j_callSI X (nn := 1) (As := [.int i1]) (st := []) aw_653 (x_X8_isSheet l D y ad i1 _ _ h) aw_652 aw_654 aw_5 (by decide +kernel) ⟨Nat.le_of_ble_eq_true rfl, Nat.le_of_ble_eq_true rfl⟩ rfl (Nat.le_of_ble_eq_true rfl) ⟨Nat.le_of_ble_eq_true rfl, Nat.le_of_ble_eq_true rfl⟩ dX8_sparks_1 ?_
  intro r1 M1 h
  refine j_if_eq X 16 (by decide) dX8_sparks_4 (fun q_2 => ?_) (fun q_2 => ?_)
  · replace h := h.1 q_2
    refine j_aload_n X 0 rfl rfl dX8_sparks_16 ?_
    refine j_ldc X (v := (-1000000001)) aw_132 dX8_sparks_17 ?_
    refine j_callVI X (nn := 1) (As := [.int (-1000000001)]) (st := []) (ci := 8) cl_79.1 (wE_8 _ cl_79.2) rfl aw_144 aw_145 (x_X8_errs l D y ad (-1000000001) _ _ h) aw_143 aw_146 aw_5 (by decide +kernel) ⟨Nat.le_of_ble_eq_true rfl, Nat.le_of_ble_eq_true rfl⟩ rfl (Nat.le_of_ble_eq_true rfl) ⟨Nat.le_of_ble_eq_true rfl, Nat.le_of_ble_eq_true rfl⟩ dX8_sparks_19 ?_
    intro r3 M3 h
    exact j_iret X hr hlocks dX8_sparks_22 h
  · replace h := h.2 q_2
    refine j_iload_n X 2 rfl rfl dX8_sparks_7 ?_
    refine j_iconst X (v := 0) (by decide) dX8_sparks_8 ?_
    refine j_iconst X (v := 1) (by decide) dX8_sparks_9 ?_
    refine j_callSI X (nn := 3) (As := [.int i2, .int 0, .int 1]) (st := []) aw_134 (x_X8_in l D y ad i2 0 1 _ _ h) aw_133 aw_135 aw_5 (by decide +kernel) ⟨Nat.le_of_ble_eq_true rfl, Nat.le_of_ble_eq_true rfl⟩ rfl (Nat.le_of_ble_eq_true rfl) ⟨Nat.le_of_ble_eq_true rfl, Nat.le_of_ble_eq_true rfl⟩ dX8_sparks_10 ?_
    intro r4 M4 h
    refine j_if_ne X 23 (by decide) dX8_sparks_13 (fun q_5 => ?_) (fun q_5 => ?_)
    · replace h := h.1 q_5
      refine j_aload_n X 0 rfl rfl dX8_sparks_23 ?_
      refine j_get X cl_79.1 (wE_8 _ cl_79.2) rfl awF8 15 (by decide) aw_99 rfl (v := .ref (ad 87)) rfl dX8_sparks_24 ?_
      refine j_iload_n X 1 rfl rfl dX8_sparks_27 ?_
      obtain ⟨hi_6, h⟩ := h
      refine j_iald X cl_87.1 cl_87.2 hi_6 dX8_sparks_28 ?_
      refine j_if_eq X 47 (by decide) dX8_sparks_29 (fun q_7 => ?_) (fun q_7 => ?_)
      · replace h := h.1 q_7
        refine j_aload_n X 0 rfl rfl dX8_sparks_47 ?_
        refine j_ldc X (v := (-1000000002)) aw_565 dX8_sparks_48 ?_
        refine j_callVI X (nn := 1) (As := [.int (-1000000002)]) (st := []) (ci := 8) cl_79.1 (wE_8 _ cl_79.2) rfl aw_144 aw_145 (x_X8_errs l D y ad (-1000000002) _ _ h) aw_143 aw_146 aw_5 (by decide +kernel) ⟨Nat.le_of_ble_eq_true rfl, Nat.le_of_ble_eq_true rfl⟩ rfl (Nat.le_of_ble_eq_true rfl) ⟨Nat.le_of_ble_eq_true rfl, Nat.le_of_ble_eq_true rfl⟩ dX8_sparks_50 ?_
        intro r8 M8 h
        exact j_iret X hr hlocks dX8_sparks_53 h
      · replace h := h.2 q_7
        refine j_aload_n X 0 rfl rfl dX8_sparks_32 ?_
        refine j_get X cl_79.1 (wE_8 _ cl_79.2) rfl awF8 16 (by decide) aw_100 rfl (v := .ref (ad 88)) rfl dX8_sparks_33 ?_
        refine j_iload_n X 1 rfl rfl dX8_sparks_36 ?_
        obtain ⟨hi_9, h⟩ := h
        refine j_iald X cl_88.1 cl_88.2 hi_9 dX8_sparks_37 ?_
        refine j_aload_n X 0 rfl rfl dX8_sparks_38 ?_
        refine j_get X cl_79.1 (wE_8 _ cl_79.2) rfl awF8 0 (by decide) aw_92 rfl (v := .ref (ad 80)) rfl dX8_sparks_39 ?_
        refine j_iconst X (v := 2) (by decide) dX8_sparks_42 ?_
        refine j_iald X cl_80.1 cl_80.2 (by unfold vp_in; decide) dX8_sparks_43 ?_
        refine j_eqi (v := M4 80 2) rfl ?_
        refine j_icmp_eq X 54 (by decide) dX8_sparks_44 (fun q_10 => ?_) (fun q_10 => ?_)
        · replace h := h.1 q_10
          refine j_iconst X (v := 0) (by decide) dX8_sparks_54 ?_
          refine j_istore_n X [(3, .int 0), (0, .ref (ad 79)), (1, .int i1), (2, .int i2)] rfl (by decide) rfl dX8_sparks_55 ?_
          refine j_aload_n X 1 rfl rfl dX8_sparks_56 ?_
          refine j_aload_n X 1 rfl rfl dX8_sparks_57 ?_
          refine j_get X cl_79.1 (wE_8 _ cl_79.2) rfl awF8 0 (by decide) aw_92 rfl (v := .ref (ad 80)) rfl dX8_sparks_58 ?_
          refine j_aload_n X 1 rfl rfl dX8_sparks_61 ?_
          refine j_get X cl_79.1 (wE_8 _ cl_79.2) rfl awF8 2 (by decide) aw_94 rfl (v := .ref (ad 82)) rfl dX8_sparks_62 ?_
          refine j_callVV X (nn := 2) (As := [.ref (ad 80), .ref (ad 82)]) (st := []) (ci := 8) cl_79.1 (wE_8 _ cl_79.2) rfl aw_553 aw_554 (x_X8_moveAll l D y ad 80 82 cl_80 cl_82 _ _ h) aw_552 aw_555 aw_5 (by decide +kernel) ⟨Nat.le_of_ble_eq_true rfl, Nat.le_of_ble_eq_true rfl⟩ rfl (Nat.le_of_ble_eq_true rfl) ⟨Nat.le_of_ble_eq_true rfl, Nat.le_of_ble_eq_true rfl⟩ dX8_sparks_65 ?_
          intro M11 h
          refine j_iconst X (v := 0) (by decide) dX8_sparks_68 ?_
          refine j_istore X [(4, .int 0), (3, .int 0), (0, .ref (ad 79)), (1, .int i1), (2, .int i2)] (by decide) rfl dX8_sparks_69 ?_
          refine j_lv (lv1 := [(0, .ref (ad 79)), (1, .int i1), (2, .int i2), (3, .int 0), (4, .int 0)]) [2, 3, 4, 1, 0] rfl ?_
          obtain ⟨n71, h⟩ := h
          exact hL71 _ _   n71 _ _ _ h
        · replace h := h.2 q_10
          refine j_aload_n X 0 rfl rfl dX8_sparks_47 ?_
          refine j_ldc X (v := (-1000000002)) aw_565 dX8_sparks_48 ?_
          refine j_callVI X (nn := 1) (As := [.int (-1000000002)]) (st := []) (ci := 8) cl_79.1 (wE_8 _ cl_79.2) rfl aw_144 aw_145 (x_X8_errs l D y ad (-1000000002) _ _ h) aw_143 aw_146 aw_5 (by decide +kernel) ⟨Nat.le_of_ble_eq_true rfl, Nat.le_of_ble_eq_true rfl⟩ rfl (Nat.le_of_ble_eq_true rfl) ⟨Nat.le_of_ble_eq_true rfl, Nat.le_of_ble_eq_true rfl⟩ dX8_sparks_50 ?_
          intro r12 M12 h
          exact j_iret X hr hlocks dX8_sparks_53 h
    · replace h := h.2 q_5
      refine j_aload_n X 0 rfl rfl dX8_sparks_16 ?_
      refine j_ldc X (v := (-1000000001)) aw_132 dX8_sparks_17 ?_
      refine j_callVI X (nn := 1) (As := [.int (-1000000001)]) (st := []) (ci := 8) cl_79.1 (wE_8 _ cl_79.2) rfl aw_144 aw_145 (x_X8_errs l D y ad (-1000000001) _ _ h) aw_143 aw_146 aw_5 (by decide +kernel) ⟨Nat.le_of_ble_eq_true rfl, Nat.le_of_ble_eq_true rfl⟩ rfl (Nat.le_of_ble_eq_true rfl) ⟨Nat.le_of_ble_eq_true rfl, Nat.le_of_ble_eq_true rfl⟩ dX8_sparks_19 ?_
      intro r13 M13 h
      exact j_iret X hr hlocks dX8_sparks_22 h
theorem dX8_last_101 : decode cX8_last 101 = .ok (.istore 8, 2) := dk_54 (by decide +kernel)
theorem dX8_last_103 : decode cX8_last 103 = .ok (.iload 8, 2) := dk_21 (by decide +kernel)
theorem dX8_last_105 : decode cX8_last 105 = .ok (.ifCond .eq 8, 3) := dk_153 (by decide +kernel)
theorem dX8_last_113 : decode cX8_last 113 = .ok (.iload_n 2, 1) := dk_28 (by decide +kernel)
theorem dX8_last_114 : decode cX8_last 114 = .ok (.istore_n 2, 1) := dk_61 (by decide +kernel)
theorem dX8_last_115 : decode cX8_last 115 = .ok (.iload 8, 2) := dk_21 (by decide +kernel)
theorem dX8_last_117 : decode cX8_last 117 = .ok (.ifCond .eq 8, 3) := dk_153 (by decide +kernel)
theorem dX8_last_125 : decode cX8_last 125 = .ok (.iload_n 3, 1) := dk_29 (by decide +kernel)
theorem dX8_last_126 : decode cX8_last 126 = .ok (.istore_n 3, 1) := dk_62 (by decide +kernel)
theorem dX8_last_127 : decode cX8_last 127 = .ok (.iinc 7 1, 3) := dk_132 (by decide +kernel)
theorem dX8_last_130 : decode cX8_last 130 = .ok (.goto (-56), 3) := dk_167 (by decide +kernel)
theorem dX8_last_120 : decode cX8_last 120 = .ok (.iload 5, 2) := dk_21 (by decide +kernel)
theorem dX8_last_122 : decode cX8_last 122 = .ok (.goto 4, 3) := dk_167 (by decide +kernel)
theorem dX8_last_108 : decode cX8_last 108 = .ok (.iload 7, 2) := dk_21 (by decide +kernel)
theorem dX8_last_110 : decode cX8_last 110 = .ok (.goto 4, 3) := dk_167 (by decide +kernel)
theorem dX8_last_74 : decode cX8_last 74 = .ok (.iload 7, 2) := dk_21 (by decide +kernel)
theorem dX8_last_76 : decode cX8_last 76 = .ok (.aload_n 0, 1) := dk_42 (by decide +kernel)
theorem dX8_last_77 : decode cX8_last 77 = .ok (.getfield 7, 3) := dk_180 (by decide +kernel)
theorem dX8_last_80 : decode cX8_last 80 = .ok (.iconst 2, 1) := dk_5 (by decide +kernel)
theorem dX8_last_81 : decode cX8_last 81 = .ok (.iaload, 1) := dk_46 (by decide +kernel)
theorem dX8_last_82 : decode cX8_last 82 = .ok (.if_icmp .ge 51, 3) := dk_162 (by decide +kernel)
theorem dX8_last_133 : decode cX8_last 133 = .ok (.iinc 5 1, 3) := dk_132 (by decide +kernel)
theorem dX8_last_136 : decode cX8_last 136 = .ok (.goto (-95), 3) := dk_167 (by decide +kernel)
theorem dX8_last_85 : decode cX8_last 85 = .ok (.iload 6, 2) := dk_21 (by decide +kernel)
theorem dX8_last_87 : decode cX8_last 87 = .ok (.iload 7, 2) := dk_21 (by decide +kernel)
theorem dX8_last_89 : decode cX8_last 89 = .ok (.ishr, 1) := dk_122 (by decide +kernel)
theorem dX8_last_90 : decode cX8_last 90 = .ok (.iconst 1, 1) := dk_4 (by decide +kernel)
theorem dX8_last_91 : decode cX8_last 91 = .ok (.iand, 1) := dk_126 (by decide +kernel)
theorem dX8_last_92 : decode cX8_last 92 = .ok (.iconst 1, 1) := dk_4 (by decide +kernel)
theorem dX8_last_93 : decode cX8_last 93 = .ok (.if_icmp .ne 7, 3) := dk_160 (by decide +kernel)
theorem dX8_last_100 : decode cX8_last 100 = .ok (.iconst 0, 1) := dk_3 (by decide +kernel)
theorem dX8_last_96 : decode cX8_last 96 = .ok (.iconst 1, 1) := dk_4 (by decide +kernel)
theorem dX8_last_97 : decode cX8_last 97 = .ok (.goto 4, 3) := dk_167 (by decide +kernel)
theorem dX8_last_41 : decode cX8_last 41 = .ok (.iload 5, 2) := dk_21 (by decide +kernel)
theorem dX8_last_43 : decode cX8_last 43 = .ok (.bipush 60, 2) := dk_16 (by decide +kernel)
theorem dX8_last_45 : decode cX8_last 45 = .ok (.if_icmp .gt 94, 3) := dk_163 (by decide +kernel)
theorem dX8_last_139 : decode cX8_last 139 = .ok (.aload_n 0, 1) := dk_42 (by decide +kernel)
theorem dX8_last_140 : decode cX8_last 140 = .ok (.aload_n 0, 1) := dk_42 (by decide +kernel)
theorem dX8_last_141 : decode cX8_last 141 = .ok (.getfield 16, 3) := dk_180 (by decide +kernel)
theorem dX8_last_144 : decode cX8_last 144 = .ok (.aload_n 0, 1) := dk_42 (by decide +kernel)
theorem dX8_last_145 : decode cX8_last 145 = .ok (.getfield 7, 3) := dk_180 (by decide +kernel)
theorem dX8_last_148 : decode cX8_last 148 = .ok (.invokevirtual 175, 3) := dk_182 (by decide +kernel)
theorem dX8_last_151 : decode cX8_last 151 = .ok (.iload_n 2, 1) := dk_28 (by decide +kernel)
theorem dX8_last_152 : decode cX8_last 152 = .ok (.ifCond .ge 10, 3) := dk_156 (by decide +kernel)
theorem dX8_last_162 : decode cX8_last 162 = .ok (.iload_n 1, 1) := dk_27 (by decide +kernel)
theorem dX8_last_163 : decode cX8_last 163 = .ok (.ifCond .ne 7, 3) := dk_154 (by decide +kernel)
theorem dX8_last_170 : decode cX8_last 170 = .ok (.iload_n 3, 1) := dk_29 (by decide +kernel)
theorem dX8_last_171 : decode cX8_last 171 = .ok (.ireturn, 1) := dk_172 (by decide +kernel)
theorem dX8_last_166 : decode cX8_last 166 = .ok (.iload_n 2, 1) := dk_28 (by decide +kernel)
theorem dX8_last_167 : decode cX8_last 167 = .ok (.goto 4, 3) := dk_167 (by decide +kernel)
theorem dX8_last_155 : decode cX8_last 155 = .ok (.aload_n 0, 1) := dk_42 (by decide +kernel)
theorem dX8_last_156 : decode cX8_last 156 = .ok (.ldc 194, 2) := dk_18 (by decide +kernel)
theorem dX8_last_158 : decode cX8_last 158 = .ok (.invokevirtual 61, 3) := dk_182 (by decide +kernel)
theorem dX8_last_161 : decode cX8_last 161 = .ok (.ireturn, 1) := dk_172 (by decide +kernel)
theorem dX8_last_48 : decode cX8_last 48 = .ok (.aload_n 0, 1) := dk_42 (by decide +kernel)
theorem dX8_last_49 : decode cX8_last 49 = .ok (.iconst 1, 1) := dk_4 (by decide +kernel)
theorem dX8_last_50 : decode cX8_last 50 = .ok (.invokevirtual 171, 3) := dk_182 (by decide +kernel)
theorem dX8_last_53 : decode cX8_last 53 = .ok (.aload_n 0, 1) := dk_42 (by decide +kernel)
theorem dX8_last_54 : decode cX8_last 54 = .ok (.invokevirtual 182, 3) := dk_182 (by decide +kernel)
theorem dX8_last_57 : decode cX8_last 57 = .ok (.iload 4, 2) := dk_21 (by decide +kernel)
theorem dX8_last_59 : decode cX8_last 59 = .ok (.iconst (-1), 1) := dk_2 (by decide +kernel)
theorem dX8_last_60 : decode cX8_last 60 = .ok (.ixor, 1) := dk_130 (by decide +kernel)
theorem dX8_last_61 : decode cX8_last 61 = .ok (.iand, 1) := dk_126 (by decide +kernel)
theorem dX8_last_62 : decode cX8_last 62 = .ok (.istore 6, 2) := dk_54 (by decide +kernel)
theorem dX8_last_64 : decode cX8_last 64 = .ok (.iload 4, 2) := dk_21 (by decide +kernel)
theorem dX8_last_66 : decode cX8_last 66 = .ok (.iload 6, 2) := dk_21 (by decide +kernel)
theorem dX8_last_68 : decode cX8_last 68 = .ok (.ior, 1) := dk_128 (by decide +kernel)
theorem dX8_last_69 : decode cX8_last 69 = .ok (.istore 4, 2) := dk_54 (by decide +kernel)
theorem dX8_last_71 : decode cX8_last 71 = .ok (.iconst 0, 1) := dk_3 (by decide +kernel)
theorem dX8_last_72 : decode cX8_last 72 = .ok (.istore 7, 2) := dk_54 (by decide +kernel)
theorem dX8_last_0 : decode cX8_last 0 = .ok (.iload_n 1, 1) := dk_27 (by decide +kernel)
theorem dX8_last_1 : decode cX8_last 1 = .ok (.iconst 0, 1) := dk_3 (by decide +kernel)
theorem dX8_last_2 : decode cX8_last 2 = .ok (.iconst 1, 1) := dk_4 (by decide +kernel)
theorem dX8_last_3 : decode cX8_last 3 = .ok (.invokestatic 47, 3) := dk_184 (by decide +kernel)
theorem dX8_last_6 : decode cX8_last 6 = .ok (.ifCond .ne 10, 3) := dk_154 (by decide +kernel)
theorem dX8_last_16 : decode cX8_last 16 = .ok (.iconst (-1), 1) := dk_2 (by decide +kernel)
theorem dX8_last_17 : decode cX8_last 17 = .ok (.istore_n 2, 1) := dk_61 (by decide +kernel)
theorem dX8_last_18 : decode cX8_last 18 = .ok (.iconst 0, 1) := dk_3 (by decide +kernel)
theorem dX8_last_19 : decode cX8_last 19 = .ok (.istore_n 3, 1) := dk_62 (by decide +kernel)
theorem dX8_last_20 : decode cX8_last 20 = .ok (.aload_n 0, 1) := dk_42 (by decide +kernel)
theorem dX8_last_21 : decode cX8_last 21 = .ok (.aload_n 0, 1) := dk_42 (by decide +kernel)
theorem dX8_last_22 : decode cX8_last 22 = .ok (.getfield 7, 3) := dk_180 (by decide +kernel)
theorem dX8_last_25 : decode cX8_last 25 = .ok (.aload_n 0, 1) := dk_42 (by decide +kernel)
theorem dX8_last_26 : decode cX8_last 26 = .ok (.getfield 16, 3) := dk_180 (by decide +kernel)
theorem dX8_last_29 : decode cX8_last 29 = .ok (.invokevirtual 175, 3) := dk_182 (by decide +kernel)
theorem dX8_last_32 : decode cX8_last 32 = .ok (.aload_n 0, 1) := dk_42 (by decide +kernel)
theorem dX8_last_33 : decode cX8_last 33 = .ok (.invokevirtual 182, 3) := dk_182 (by decide +kernel)
theorem dX8_last_36 : decode cX8_last 36 = .ok (.istore 4, 2) := dk_54 (by decide +kernel)
theorem dX8_last_38 : decode cX8_last 38 = .ok (.iconst 1, 1) := dk_4 (by decide +kernel)
theorem dX8_last_39 : decode cX8_last 39 = .ok (.istore 5, 2) := dk_54 (by decide +kernel)
theorem dX8_last_9 : decode cX8_last 9 = .ok (.aload_n 0, 1) := dk_42 (by decide +kernel)
theorem dX8_last_10 : decode cX8_last 10 = .ok (.ldc 60, 2) := dk_18 (by decide +kernel)
theorem dX8_last_12 : decode cX8_last 12 = .ok (.invokevirtual 61, 3) := dk_182 (by decide +kernel)
theorem dX8_last_15 : decode cX8_last 15 = .ok (.ireturn, 1) := dk_172 (by decide +kernel)
set_option maxRecDepth 100000 in
set_option maxHeartbeats 8000000 in
theorem x_X8_last (l : Launch) (D : va_G) (y : wY) (ad : Nat → Nat) (i1 : Int32) (M : Mem) (K : Int32 → Mem → Prop) (h : wp_X8_last i1 M K) : MI l D y ad yX8_last (Cond.code yX8_last cX8_last 9 (some .int)) 6 M [.ref (ad 79), .int i1] K := by
  refine MI_of (by decide) (Nat.le_of_ble_eq_true rfl) ?_
  intro p e s m args below meth c X hr hlocks
  have hb101 : ∀ (i1 : Int32) (i2 : Int32) (i3 : Int32) (i4 : Int32) (i5 : Int32) (i6 : Int32) (i7 : Int32) (t0 : Int32) (B41 : Int32 → Int32 → Int32 → Int32 → Mem → Prop) (hB41 : ∀ (i2' i3' i4' i5' : Int32) (Mh : Mem), B41 i2' i3' i4' i5' Mh → J p l e (rmN 6) s m args below meth c 0 0 (QI K D y ad M s args below) D y ad (va_A (PL y ad M) s.heap.size) 9 Mh 41 [(0, .ref (ad 79)), (1, .int i1), (2, .int i2'), (3, .int i3'), (4, .int i4'), (5, .int i5')] []) (B74 : Int32 → Int32 → Int32 → Mem → Prop) (hB74 : ∀ (i2' i3' i7' : Int32) (Mh : Mem), B74 i2' i3' i7' Mh → J p l e (rmN 6) s m args below meth c 0 0 (QI K D y ad M s args below) D y ad (va_A (PL y ad M) s.heap.size) 9 Mh 74 [(0, .ref (ad 79)), (1, .int i1), (2, .int i2'), (3, .int i3'), (4, .int i4), (5, .int i5), (6, .int i6), (7, .int i7')] []) (Mb : Mem), wp_X8_last_b101 K B41 B74 i1 i2 i3 i4 i5 i6 i7 t0 Mb → J p l e (rmN 6) s m args below meth c 0 0 (QI K D y ad M s args below) D y ad (va_A (PL y ad M) s.heap.size) 9 Mb 101 [(0, .ref (ad 79)), (1, .int i1), (2, .int i2), (3, .int i3), (4, .int i4), (5, .int i5), (6, .int i6), (7, .int i7)] [.int t0] := by
    intro i1 i2 i3 i4 i5 i6 i7 t0 B41 hB41 B74 hB74 Mb h
    delta wp_X8_last_b101 at h
    refine j_istore X [(8, .int t0), (0, .ref (ad 79)), (1, .int i1), (2, .int i2), (3, .int i3), (4, .int i4), (5, .int i5), (6, .int i6), (7, .int i7)] (by decide) rfl dX8_last_101 ?_
    refine j_iload X 0 rfl dX8_last_103 ?_
    refine j_if_eq X 113 (by decide) dX8_last_105 (fun q_10101 => ?_) (fun q_10101 => ?_)
    · replace h := h.1 q_10101
      refine j_iload_n X 3 rfl rfl dX8_last_113 ?_
      refine j_istore_n X [(2, .int i2), (8, .int t0), (0, .ref (ad 79)), (1, .int i1), (3, .int i3), (4, .int i4), (5, .int i5), (6, .int i6), (7, .int i7)] rfl (by decide) rfl dX8_last_114 ?_
      refine j_iload X 1 rfl dX8_last_115 ?_
      refine j_if_eq X 125 (by decide) dX8_last_117 (fun q_10102 => ?_) (fun q_10102 => ?_)
      · replace h := h.1 q_10102
        refine j_iload_n X 4 rfl rfl dX8_last_125 ?_
        refine j_istore_n X [(3, .int i3), (2, .int i2), (8, .int t0), (0, .ref (ad 79)), (1, .int i1), (4, .int i4), (5, .int i5), (6, .int i6), (7, .int i7)] rfl (by decide) rfl dX8_last_126 ?_
        refine j_iinc X (v := (i7 + 1)) 8 [(7, .int (i7 + 1)), (3, .int i3), (2, .int i2), (8, .int t0), (0, .ref (ad 79)), (1, .int i1), (4, .int i4), (5, .int i5), (6, .int i6)] rfl rfl (by decide) rfl dX8_last_127 ?_
        refine j_goto X 74 (by decide) dX8_last_130 ?_
        refine j_lv (lv1 := [(0, .ref (ad 79)), (1, .int i1), (2, .int i2), (3, .int i3), (4, .int i4), (5, .int i5), (6, .int i6), (7, .int (i7 + 1))]) [4, 5, 2, 1, 6, 7, 8, 0] rfl ?_
        exact hB74 _ _ _ _ h
      · replace h := h.2 q_10102
        refine j_iload X 6 rfl dX8_last_120 ?_
        refine j_goto X 126 (by decide) dX8_last_122 ?_
        refine j_istore_n X [(3, .int i5), (2, .int i2), (8, .int t0), (0, .ref (ad 79)), (1, .int i1), (4, .int i4), (5, .int i5), (6, .int i6), (7, .int i7)] rfl (by decide) rfl dX8_last_126 ?_
        refine j_iinc X (v := (i7 + 1)) 8 [(7, .int (i7 + 1)), (3, .int i5), (2, .int i2), (8, .int t0), (0, .ref (ad 79)), (1, .int i1), (4, .int i4), (5, .int i5), (6, .int i6)] rfl rfl (by decide) rfl dX8_last_127 ?_
        refine j_goto X 74 (by decide) dX8_last_130 ?_
        refine j_lv (lv1 := [(0, .ref (ad 79)), (1, .int i1), (2, .int i2), (3, .int i5), (4, .int i4), (5, .int i5), (6, .int i6), (7, .int (i7 + 1))]) [4, 5, 2, 1, 6, 7, 8, 0] rfl ?_
        exact hB74 _ _ _ _ h
    · replace h := h.2 q_10101
      refine j_iload X 8 rfl dX8_last_108 ?_
      refine j_goto X 114 (by decide) dX8_last_110 ?_
      refine j_istore_n X [(2, .int i7), (8, .int t0), (0, .ref (ad 79)), (1, .int i1), (3, .int i3), (4, .int i4), (5, .int i5), (6, .int i6), (7, .int i7)] rfl (by decide) rfl dX8_last_114 ?_
      refine j_iload X 1 rfl dX8_last_115 ?_
      refine j_if_eq X 125 (by decide) dX8_last_117 (fun q_10103 => ?_) (fun q_10103 => ?_)
      · replace h := h.1 q_10103
        refine j_iload_n X 4 rfl rfl dX8_last_125 ?_
        refine j_istore_n X [(3, .int i3), (2, .int i7), (8, .int t0), (0, .ref (ad 79)), (1, .int i1), (4, .int i4), (5, .int i5), (6, .int i6), (7, .int i7)] rfl (by decide) rfl dX8_last_126 ?_
        refine j_iinc X (v := (i7 + 1)) 8 [(7, .int (i7 + 1)), (3, .int i3), (2, .int i7), (8, .int t0), (0, .ref (ad 79)), (1, .int i1), (4, .int i4), (5, .int i5), (6, .int i6)] rfl rfl (by decide) rfl dX8_last_127 ?_
        refine j_goto X 74 (by decide) dX8_last_130 ?_
        refine j_lv (lv1 := [(0, .ref (ad 79)), (1, .int i1), (2, .int i7), (3, .int i3), (4, .int i4), (5, .int i5), (6, .int i6), (7, .int (i7 + 1))]) [4, 5, 2, 1, 6, 7, 8, 0] rfl ?_
        exact hB74 _ _ _ _ h
      · replace h := h.2 q_10103
        refine j_iload X 6 rfl dX8_last_120 ?_
        refine j_goto X 126 (by decide) dX8_last_122 ?_
        refine j_istore_n X [(3, .int i5), (2, .int i7), (8, .int t0), (0, .ref (ad 79)), (1, .int i1), (4, .int i4), (5, .int i5), (6, .int i6), (7, .int i7)] rfl (by decide) rfl dX8_last_126 ?_
        refine j_iinc X (v := (i7 + 1)) 8 [(7, .int (i7 + 1)), (3, .int i5), (2, .int i7), (8, .int t0), (0, .ref (ad 79)), (1, .int i1), (4, .int i4), (5, .int i5), (6, .int i6)] rfl rfl (by decide) rfl dX8_last_127 ?_
        refine j_goto X 74 (by decide) dX8_last_130 ?_
        refine j_lv (lv1 := [(0, .ref (ad 79)), (1, .int i1), (2, .int i7), (3, .int i5), (4, .int i4), (5, .int i5), (6, .int i6), (7, .int (i7 + 1))]) [4, 5, 2, 1, 6, 7, 8, 0] rfl ?_
        exact hB74 _ _ _ _ h
  have hL74 : ∀ (i1 : Int32) (i4 : Int32) (i5 : Int32) (i6 : Int32) (B41 : Int32 → Int32 → Int32 → Int32 → Mem → Prop) (hB41 : ∀ (i2' i3' i4' i5' : Int32) (Mh : Mem), B41 i2' i3' i4' i5' Mh → J p l e (rmN 6) s m args below meth c 0 0 (QI K D y ad M s args below) D y ad (va_A (PL y ad M) s.heap.size) 9 Mh 41 [(0, .ref (ad 79)), (1, .int i1), (2, .int i2'), (3, .int i3'), (4, .int i4'), (5, .int i5')] []) (n : Nat) (i2 : Int32) (i3 : Int32) (i7 : Int32) (Mb : Mem), wp_X8_last_L74 K B41 i1 i4 i5 i6 n i2 i3 i7 Mb → J p l e (rmN 6) s m args below meth c 0 0 (QI K D y ad M s args below) D y ad (va_A (PL y ad M) s.heap.size) 9 Mb 74 [(0, .ref (ad 79)), (1, .int i1), (2, .int i2), (3, .int i3), (4, .int i4), (5, .int i5), (6, .int i6), (7, .int i7)] [] := by
    intro i1 i4 i5 i6 B41 hB41 n
    induction n with
    | zero => intro i2 i3 i7 Mb h; exact False.elim h
    | succ n hB74 =>
      intro i2 i3 i7 Mb h
      replace h : wp_X8_last_l74 K B41 i1 i4 i5 i6 (wp_X8_last_L74 K B41 i1 i4 i5 i6 n) i2 i3 i7 Mb := h
      delta wp_X8_last_l74 at h
      refine j_iload X 7 rfl dX8_last_74 ?_
      refine j_aload_n X 0 rfl rfl dX8_last_76 ?_
      refine j_get X cl_79.1 (wE_8 _ cl_79.2) rfl awF8 0 (by decide) aw_92 rfl (v := .ref (ad 80)) rfl dX8_last_77 ?_
      refine j_iconst X (v := 2) (by decide) dX8_last_80 ?_
      refine j_iald X cl_80.1 cl_80.2 (by unfold vp_in; decide) dX8_last_81 ?_
      refine j_eqi (v := Mb 80 2) rfl ?_
      refine j_icmp_ge X 133 (by decide) dX8_last_82 (fun q_7401 => ?_) (fun q_7401 => ?_)
      · replace h := h.1 q_7401
        refine j_iinc X (v := (i5 + 1)) 5 [(5, .int (i5 + 1)), (0, .ref (ad 79)), (1, .int i1), (2, .int i2), (3, .int i3), (4, .int i4), (6, .int i6), (7, .int i7)] rfl rfl (by decide) rfl dX8_last_133 ?_
        refine j_goto X 41 (by decide) dX8_last_136 ?_
        refine j_lv (lv1 := [(0, .ref (ad 79)), (1, .int i1), (2, .int i2), (3, .int i3), (4, .int i4), (5, .int (i5 + 1))]) [1, 2, 3, 4, 5, 0] rfl ?_
        exact hB41 _ _ _ _ _ h
      · replace h := h.2 q_7401
        refine j_iload X 6 rfl dX8_last_85 ?_
        refine j_iload X 7 rfl dX8_last_87 ?_
        refine j_ishr X dX8_last_89 ?_
        refine j_iconst X (v := 1) (by decide) dX8_last_90 ?_
        refine j_iand X dX8_last_91 ?_
        refine j_iconst X (v := 1) (by decide) dX8_last_92 ?_
        refine j_icmp_ne X 100 (by decide) dX8_last_93 (fun q_7402 => ?_) (fun q_7402 => ?_)
        · replace h := h.1 q_7402
          refine j_iconst X (v := 0) (by decide) dX8_last_100 ?_
          refine j_lv (lv1 := [(0, .ref (ad 79)), (1, .int i1), (2, .int i2), (3, .int i3), (4, .int i4), (5, .int i5), (6, .int i6), (7, .int i7)]) [0, 1, 2, 3, 4, 5, 6, 7] rfl ?_
          exact hb101 _ _ _ _ _ _ _ _ _ hB41 _ hB74 _ h
        · replace h := h.2 q_7402
          refine j_iconst X (v := 1) (by decide) dX8_last_96 ?_
          refine j_goto X 101 (by decide) dX8_last_97 ?_
          refine j_lv (lv1 := [(0, .ref (ad 79)), (1, .int i1), (2, .int i2), (3, .int i3), (4, .int i4), (5, .int i5), (6, .int i6), (7, .int i7)]) [0, 1, 2, 3, 4, 5, 6, 7] rfl ?_
          exact hb101 _ _ _ _ _ _ _ _ _ hB41 _ hB74 _ h
  have hL41 : ∀ (i1 : Int32) (n : Nat) (i2 : Int32) (i3 : Int32) (i4 : Int32) (i5 : Int32) (Mb : Mem), wp_X8_last_L41 K i1 n i2 i3 i4 i5 Mb → J p l e (rmN 6) s m args below meth c 0 0 (QI K D y ad M s args below) D y ad (va_A (PL y ad M) s.heap.size) 9 Mb 41 [(0, .ref (ad 79)), (1, .int i1), (2, .int i2), (3, .int i3), (4, .int i4), (5, .int i5)] [] := by
    intro i1 n
    induction n with
    | zero => intro i2 i3 i4 i5 Mb h; exact False.elim h
    | succ n hB41 =>
      intro i2 i3 i4 i5 Mb h
      replace h : wp_X8_last_l41 K i1 (wp_X8_last_L41 K i1 n) i2 i3 i4 i5 Mb := h
      delta wp_X8_last_l41 at h
      refine j_iload X 5 rfl dX8_last_41 ?_
      refine j_bipush X (v := 60) (by decide) dX8_last_43 ?_
      refine j_icmp_gt X 139 (by decide) dX8_last_45 (fun q_4101 => ?_) (fun q_4101 => ?_)
      · replace h := h.1 q_4101
        refine j_aload_n X 0 rfl rfl dX8_last_139 ?_
        refine j_aload_n X 0 rfl rfl dX8_last_140 ?_
        refine j_get X cl_79.1 (wE_8 _ cl_79.2) rfl awF8 2 (by decide) aw_94 rfl (v := .ref (ad 82)) rfl dX8_last_141 ?_
        refine j_aload_n X 0 rfl rfl dX8_last_144 ?_
        refine j_get X cl_79.1 (wE_8 _ cl_79.2) rfl awF8 0 (by decide) aw_92 rfl (v := .ref (ad 80)) rfl dX8_last_145 ?_
        refine j_callVV X (nn := 2) (As := [.ref (ad 82), .ref (ad 80)]) (st := []) (ci := 8) cl_79.1 (wE_8 _ cl_79.2) rfl aw_553 aw_554 (x_X8_moveAll l D y ad 82 80 cl_82 cl_80 _ _ h) aw_552 aw_555 aw_5 (by decide +kernel) ⟨Nat.le_of_ble_eq_true rfl, Nat.le_of_ble_eq_true rfl⟩ rfl (Nat.le_of_ble_eq_true rfl) ⟨Nat.le_of_ble_eq_true rfl, Nat.le_of_ble_eq_true rfl⟩ dX8_last_148 ?_
        intro M4102 h
        refine j_iload_n X 2 rfl rfl dX8_last_151 ?_
        refine j_if_ge X 162 (by decide) dX8_last_152 (fun q_4103 => ?_) (fun q_4103 => ?_)
        · replace h := h.1 q_4103
          refine j_iload_n X 1 rfl rfl dX8_last_162 ?_
          refine j_if_ne X 170 (by decide) dX8_last_163 (fun q_4104 => ?_) (fun q_4104 => ?_)
          · replace h := h.1 q_4104
            refine j_iload_n X 3 rfl rfl dX8_last_170 ?_
            exact j_iret X hr hlocks dX8_last_171 h
          · replace h := h.2 q_4104
            refine j_iload_n X 2 rfl rfl dX8_last_166 ?_
            refine j_goto X 171 (by decide) dX8_last_167 ?_
            exact j_iret X hr hlocks dX8_last_171 h
        · replace h := h.2 q_4103
          refine j_aload_n X 0 rfl rfl dX8_last_155 ?_
          refine j_ldc X (v := (-1000000002)) aw_565 dX8_last_156 ?_
          refine j_callVI X (nn := 1) (As := [.int (-1000000002)]) (st := []) (ci := 8) cl_79.1 (wE_8 _ cl_79.2) rfl aw_144 aw_145 (x_X8_errs l D y ad (-1000000002) _ _ h) aw_143 aw_146 aw_5 (by decide +kernel) ⟨Nat.le_of_ble_eq_true rfl, Nat.le_of_ble_eq_true rfl⟩ rfl (Nat.le_of_ble_eq_true rfl) ⟨Nat.le_of_ble_eq_true rfl, Nat.le_of_ble_eq_true rfl⟩ dX8_last_158 ?_
          intro r4105 M4105 h
          exact j_iret X hr hlocks dX8_last_161 h
      · replace h := h.2 q_4101
        refine j_aload_n X 0 rfl rfl dX8_last_48 ?_
        refine j_iconst X (v := 1) (by decide) dX8_last_49 ?_
        refine j_callVV X (nn := 1) (As := [.int 1]) (st := []) (ci := 8) cl_79.1 (wE_8 _ cl_79.2) rfl aw_486 aw_487 (x_X8_oneDay l D y ad 1 _ _ h) aw_485 aw_488 aw_5 (by decide +kernel) ⟨Nat.le_of_ble_eq_true rfl, Nat.le_of_ble_eq_true rfl⟩ rfl (Nat.le_of_ble_eq_true rfl) ⟨Nat.le_of_ble_eq_true rfl, Nat.le_of_ble_eq_true rfl⟩ dX8_last_50 ?_
        intro M4106 h
        refine j_aload_n X 0 rfl rfl dX8_last_53 ?_
        refine j_callVI X (nn := 0) (As := []) (st := []) (ci := 8) cl_79.1 (wE_8 _ cl_79.2) rfl aw_506 aw_507 (x_X8_overSet l D y ad  _ _ h) aw_505 aw_508 aw_5 (by decide +kernel) ⟨Nat.le_of_ble_eq_true rfl, Nat.le_of_ble_eq_true rfl⟩ rfl (Nat.le_of_ble_eq_true rfl) ⟨Nat.le_of_ble_eq_true rfl, Nat.le_of_ble_eq_true rfl⟩ dX8_last_54 ?_
        intro r4107 M4107 h
        refine j_iload X 4 rfl dX8_last_57 ?_
        refine j_iconst X (v := (-1)) (by decide) dX8_last_59 ?_
        refine j_ixor X dX8_last_60 ?_
        refine j_iand X dX8_last_61 ?_
        refine j_istore X [(6, .int (r4107 &&& (i4 ^^^ (-1)))), (0, .ref (ad 79)), (1, .int i1), (2, .int i2), (3, .int i3), (4, .int i4), (5, .int i5)] (by decide) rfl dX8_last_62 ?_
        refine j_iload X 5 rfl dX8_last_64 ?_
        refine j_iload X 0 rfl dX8_last_66 ?_
        refine j_ior X dX8_last_68 ?_
        refine j_istore X [(4, .int (i4 ||| (r4107 &&& (i4 ^^^ (-1))))), (6, .int (r4107 &&& (i4 ^^^ (-1)))), (0, .ref (ad 79)), (1, .int i1), (2, .int i2), (3, .int i3), (5, .int i5)] (by decide) rfl dX8_last_69 ?_
        refine j_iconst X (v := 0) (by decide) dX8_last_71 ?_
        refine j_istore X [(7, .int 0), (4, .int (i4 ||| (r4107 &&& (i4 ^^^ (-1))))), (6, .int (r4107 &&& (i4 ^^^ (-1)))), (0, .ref (ad 79)), (1, .int i1), (2, .int i2), (3, .int i3), (5, .int i5)] (by decide) rfl dX8_last_72 ?_
        refine j_lv (lv1 := [(0, .ref (ad 79)), (1, .int i1), (2, .int i2), (3, .int i3), (4, .int (i4 ||| (r4107 &&& (i4 ^^^ (-1))))), (5, .int i5), (6, .int (r4107 &&& (i4 ^^^ (-1)))), (7, .int 0)]) [3, 4, 5, 6, 1, 7, 2, 0] rfl ?_
        obtain ⟨n74, h⟩ := h
        exact hL74 _ _ _ _  _ hB41 n74 _ _ _ _ h
  delta wp_X8_last at h
  refine j_lv (lv1 := [(0, .ref (ad 79)), (1, .int i1)]) [0, 1] rfl ?_
  refine j_iload_n X 1 rfl rfl dX8_last_0 ?_
  refine j_iconst X (v := 0) (by decide) dX8_last_1 ?_
  refine j_iconst X (v := 1) (by decide) dX8_last_2 ?_
  refine j_callSI X (nn := 3) (As := [.int i1, .int 0, .int 1]) (st := []) aw_134 (x_X8_in l D y ad i1 0 1 _ _ h) aw_133 aw_135 aw_5 (by decide +kernel) ⟨Nat.le_of_ble_eq_true rfl, Nat.le_of_ble_eq_true rfl⟩ rfl (Nat.le_of_ble_eq_true rfl) ⟨Nat.le_of_ble_eq_true rfl, Nat.le_of_ble_eq_true rfl⟩ dX8_last_3 ?_
  intro r1 M1 h
  refine j_if_ne X 16 (by decide) dX8_last_6 (fun q_2 => ?_) (fun q_2 => ?_)
  · replace h := h.1 q_2
    refine j_iconst X (v := (-1)) (by decide) dX8_last_16 ?_
    refine j_istore_n X [(2, .int (-1)), (0, .ref (ad 79)), (1, .int i1)] rfl (by decide) rfl dX8_last_17 ?_
    refine j_iconst X (v := 0) (by decide) dX8_last_18 ?_
    refine j_istore_n X [(3, .int 0), (2, .int (-1)), (0, .ref (ad 79)), (1, .int i1)] rfl (by decide) rfl dX8_last_19 ?_
    refine j_aload_n X 2 rfl rfl dX8_last_20 ?_
    refine j_aload_n X 2 rfl rfl dX8_last_21 ?_
    refine j_get X cl_79.1 (wE_8 _ cl_79.2) rfl awF8 0 (by decide) aw_92 rfl (v := .ref (ad 80)) rfl dX8_last_22 ?_
    refine j_aload_n X 2 rfl rfl dX8_last_25 ?_
    refine j_get X cl_79.1 (wE_8 _ cl_79.2) rfl awF8 2 (by decide) aw_94 rfl (v := .ref (ad 82)) rfl dX8_last_26 ?_
    refine j_callVV X (nn := 2) (As := [.ref (ad 80), .ref (ad 82)]) (st := []) (ci := 8) cl_79.1 (wE_8 _ cl_79.2) rfl aw_553 aw_554 (x_X8_moveAll l D y ad 80 82 cl_80 cl_82 _ _ h) aw_552 aw_555 aw_5 (by decide +kernel) ⟨Nat.le_of_ble_eq_true rfl, Nat.le_of_ble_eq_true rfl⟩ rfl (Nat.le_of_ble_eq_true rfl) ⟨Nat.le_of_ble_eq_true rfl, Nat.le_of_ble_eq_true rfl⟩ dX8_last_29 ?_
    intro M3 h
    refine j_aload_n X 2 rfl rfl dX8_last_32 ?_
    refine j_callVI X (nn := 0) (As := []) (st := []) (ci := 8) cl_79.1 (wE_8 _ cl_79.2) rfl aw_506 aw_507 (x_X8_overSet l D y ad  _ _ h) aw_505 aw_508 aw_5 (by decide +kernel) ⟨Nat.le_of_ble_eq_true rfl, Nat.le_of_ble_eq_true rfl⟩ rfl (Nat.le_of_ble_eq_true rfl) ⟨Nat.le_of_ble_eq_true rfl, Nat.le_of_ble_eq_true rfl⟩ dX8_last_33 ?_
    intro r4 M4 h
    refine j_istore X [(4, .int r4), (3, .int 0), (2, .int (-1)), (0, .ref (ad 79)), (1, .int i1)] (by decide) rfl dX8_last_36 ?_
    refine j_iconst X (v := 1) (by decide) dX8_last_38 ?_
    refine j_istore X [(5, .int 1), (4, .int r4), (3, .int 0), (2, .int (-1)), (0, .ref (ad 79)), (1, .int i1)] (by decide) rfl dX8_last_39 ?_
    refine j_lv (lv1 := [(0, .ref (ad 79)), (1, .int i1), (2, .int (-1)), (3, .int 0), (4, .int r4), (5, .int 1)]) [4, 5, 3, 2, 1, 0] rfl ?_
    obtain ⟨n41, h⟩ := h
    exact hL41 _   n41 _ _ _ _ _ h
  · replace h := h.2 q_2
    refine j_aload_n X 0 rfl rfl dX8_last_9 ?_
    refine j_ldc X (v := (-1000000001)) aw_132 dX8_last_10 ?_
    refine j_callVI X (nn := 1) (As := [.int (-1000000001)]) (st := []) (ci := 8) cl_79.1 (wE_8 _ cl_79.2) rfl aw_144 aw_145 (x_X8_errs l D y ad (-1000000001) _ _ h) aw_143 aw_146 aw_5 (by decide +kernel) ⟨Nat.le_of_ble_eq_true rfl, Nat.le_of_ble_eq_true rfl⟩ rfl (Nat.le_of_ble_eq_true rfl) ⟨Nat.le_of_ble_eq_true rfl, Nat.le_of_ble_eq_true rfl⟩ dX8_last_12 ?_
    intro r5 M5 h
    exact j_iret X hr hlocks dX8_last_15 h
theorem dX8_sharp_38 : decode cX8_sharp 38 = .ok (.iload 4, 2) := dk_21 (by decide +kernel)
theorem dX8_sharp_40 : decode cX8_sharp 40 = .ok (.bipush 99, 2) := dk_16 (by decide +kernel)
theorem dX8_sharp_42 : decode cX8_sharp 42 = .ok (.if_icmp .ge 42, 3) := dk_162 (by decide +kernel)
theorem dX8_sharp_84 : decode cX8_sharp 84 = .ok (.aload_n 0, 1) := dk_42 (by decide +kernel)
theorem dX8_sharp_85 : decode cX8_sharp 85 = .ok (.iload_n 1, 1) := dk_27 (by decide +kernel)
theorem dX8_sharp_86 : decode cX8_sharp 86 = .ok (.iconst 3, 1) := dk_6 (by decide +kernel)
theorem dX8_sharp_87 : decode cX8_sharp 87 = .ok (.iload_n 3, 1) := dk_29 (by decide +kernel)
theorem dX8_sharp_88 : decode cX8_sharp 88 = .ok (.invokevirtual 69, 3) := dk_182 (by decide +kernel)
theorem dX8_sharp_91 : decode cX8_sharp 91 = .ok (.iload 5, 2) := dk_21 (by decide +kernel)
theorem dX8_sharp_93 : decode cX8_sharp 93 = .ok (.ifCond .eq 8, 3) := dk_153 (by decide +kernel)
theorem dX8_sharp_101 : decode cX8_sharp 101 = .ok (.aload_n 0, 1) := dk_42 (by decide +kernel)
theorem dX8_sharp_102 : decode cX8_sharp 102 = .ok (.ldc 194, 2) := dk_18 (by decide +kernel)
theorem dX8_sharp_104 : decode cX8_sharp 104 = .ok (.invokevirtual 61, 3) := dk_182 (by decide +kernel)
theorem dX8_sharp_107 : decode cX8_sharp 107 = .ok (.ireturn, 1) := dk_172 (by decide +kernel)
theorem dX8_sharp_96 : decode cX8_sharp 96 = .ok (.iload 4, 2) := dk_21 (by decide +kernel)
theorem dX8_sharp_98 : decode cX8_sharp 98 = .ok (.goto 9, 3) := dk_167 (by decide +kernel)
theorem dX8_sharp_45 : decode cX8_sharp 45 = .ok (.iload 5, 2) := dk_21 (by decide +kernel)
theorem dX8_sharp_47 : decode cX8_sharp 47 = .ok (.ifCond .ne 37, 3) := dk_154 (by decide +kernel)
theorem dX8_sharp_50 : decode cX8_sharp 50 = .ok (.iinc 4 1, 3) := dk_132 (by decide +kernel)
theorem dX8_sharp_53 : decode cX8_sharp 53 = .ok (.aload_n 0, 1) := dk_42 (by decide +kernel)
theorem dX8_sharp_54 : decode cX8_sharp 54 = .ok (.iload_n 1, 1) := dk_27 (by decide +kernel)
theorem dX8_sharp_55 : decode cX8_sharp 55 = .ok (.iconst 3, 1) := dk_6 (by decide +kernel)
theorem dX8_sharp_56 : decode cX8_sharp 56 = .ok (.iload 4, 2) := dk_21 (by decide +kernel)
theorem dX8_sharp_58 : decode cX8_sharp 58 = .ok (.invokevirtual 69, 3) := dk_182 (by decide +kernel)
theorem dX8_sharp_61 : decode cX8_sharp 61 = .ok (.aload_n 0, 1) := dk_42 (by decide +kernel)
theorem dX8_sharp_62 : decode cX8_sharp 62 = .ok (.iload_n 2, 1) := dk_28 (by decide +kernel)
theorem dX8_sharp_63 : decode cX8_sharp 63 = .ok (.invokevirtual 195, 3) := dk_182 (by decide +kernel)
theorem dX8_sharp_66 : decode cX8_sharp 66 = .ok (.iload_n 1, 1) := dk_27 (by decide +kernel)
theorem dX8_sharp_67 : decode cX8_sharp 67 = .ok (.ishr, 1) := dk_122 (by decide +kernel)
theorem dX8_sharp_68 : decode cX8_sharp 68 = .ok (.iconst 1, 1) := dk_4 (by decide +kernel)
theorem dX8_sharp_69 : decode cX8_sharp 69 = .ok (.iand, 1) := dk_126 (by decide +kernel)
theorem dX8_sharp_70 : decode cX8_sharp 70 = .ok (.iconst 1, 1) := dk_4 (by decide +kernel)
theorem dX8_sharp_71 : decode cX8_sharp 71 = .ok (.if_icmp .ne 7, 3) := dk_160 (by decide +kernel)
theorem dX8_sharp_78 : decode cX8_sharp 78 = .ok (.iconst 0, 1) := dk_3 (by decide +kernel)
theorem dX8_sharp_79 : decode cX8_sharp 79 = .ok (.istore 5, 2) := dk_54 (by decide +kernel)
theorem dX8_sharp_81 : decode cX8_sharp 81 = .ok (.goto (-43), 3) := dk_167 (by decide +kernel)
theorem dX8_sharp_74 : decode cX8_sharp 74 = .ok (.iconst 1, 1) := dk_4 (by decide +kernel)
theorem dX8_sharp_75 : decode cX8_sharp 75 = .ok (.goto 4, 3) := dk_167 (by decide +kernel)
theorem dX8_sharp_0 : decode cX8_sharp 0 = .ok (.aload_n 0, 1) := dk_42 (by decide +kernel)
theorem dX8_sharp_1 : decode cX8_sharp 1 = .ok (.iload_n 1, 1) := dk_27 (by decide +kernel)
theorem dX8_sharp_2 : decode cX8_sharp 2 = .ok (.invokevirtual 73, 3) := dk_182 (by decide +kernel)
theorem dX8_sharp_5 : decode cX8_sharp 5 = .ok (.ifCond .eq 13, 3) := dk_153 (by decide +kernel)
theorem dX8_sharp_18 : decode cX8_sharp 18 = .ok (.aload_n 0, 1) := dk_42 (by decide +kernel)
theorem dX8_sharp_19 : decode cX8_sharp 19 = .ok (.ldc 60, 2) := dk_18 (by decide +kernel)
theorem dX8_sharp_21 : decode cX8_sharp 21 = .ok (.invokevirtual 61, 3) := dk_182 (by decide +kernel)
theorem dX8_sharp_24 : decode cX8_sharp 24 = .ok (.ireturn, 1) := dk_172 (by decide +kernel)
theorem dX8_sharp_8 : decode cX8_sharp 8 = .ok (.iload_n 2, 1) := dk_28 (by decide +kernel)
theorem dX8_sharp_9 : decode cX8_sharp 9 = .ok (.iconst 1, 1) := dk_4 (by decide +kernel)
theorem dX8_sharp_10 : decode cX8_sharp 10 = .ok (.bipush 60, 2) := dk_16 (by decide +kernel)
theorem dX8_sharp_12 : decode cX8_sharp 12 = .ok (.invokestatic 47, 3) := dk_184 (by decide +kernel)
theorem dX8_sharp_15 : decode cX8_sharp 15 = .ok (.ifCond .ne 10, 3) := dk_154 (by decide +kernel)
theorem dX8_sharp_25 : decode cX8_sharp 25 = .ok (.aload_n 0, 1) := dk_42 (by decide +kernel)
theorem dX8_sharp_26 : decode cX8_sharp 26 = .ok (.iload_n 1, 1) := dk_27 (by decide +kernel)
theorem dX8_sharp_27 : decode cX8_sharp 27 = .ok (.iconst 3, 1) := dk_6 (by decide +kernel)
theorem dX8_sharp_28 : decode cX8_sharp 28 = .ok (.invokevirtual 65, 3) := dk_182 (by decide +kernel)
theorem dX8_sharp_31 : decode cX8_sharp 31 = .ok (.istore_n 3, 1) := dk_62 (by decide +kernel)
theorem dX8_sharp_32 : decode cX8_sharp 32 = .ok (.iconst (-1), 1) := dk_2 (by decide +kernel)
theorem dX8_sharp_33 : decode cX8_sharp 33 = .ok (.istore 4, 2) := dk_54 (by decide +kernel)
theorem dX8_sharp_35 : decode cX8_sharp 35 = .ok (.iconst 0, 1) := dk_3 (by decide +kernel)
theorem dX8_sharp_36 : decode cX8_sharp 36 = .ok (.istore 5, 2) := dk_54 (by decide +kernel)
set_option maxRecDepth 100000 in
set_option maxHeartbeats 8000000 in
theorem x_X8_sharp (l : Launch) (D : va_G) (y : wY) (ad : Nat → Nat) (i1 : Int32) (i2 : Int32) (M : Mem) (K : Int32 → Mem → Prop) (h : wp_X8_sharp i1 i2 M K) : MI l D y ad yX8_sharp (Cond.code yX8_sharp cX8_sharp 6 (some .int)) 8 M [.ref (ad 79), .int i1, .int i2] K := by
  refine MI_of (by decide) (Nat.le_of_ble_eq_true rfl) ?_
  intro p e s m args below meth c X hr hlocks
  have hL38 : ∀ (i1 : Int32) (i2 : Int32) (i3 : Int32) (n : Nat) (i4 : Int32) (i5 : Int32) (Mb : Mem), wp_X8_sharp_L38 K i1 i2 i3 n i4 i5 Mb → J p l e (rmN 8) s m args below meth c 0 0 (QI K D y ad M s args below) D y ad (va_A (PL y ad M) s.heap.size) 6 Mb 38 [(0, .ref (ad 79)), (1, .int i1), (2, .int i2), (3, .int i3), (4, .int i4), (5, .int i5)] [] := by
    intro i1 i2 i3 n
    induction n with
    | zero => intro i4 i5 Mb h; exact False.elim h
    | succ n hB38 =>
      intro i4 i5 Mb h
      replace h : wp_X8_sharp_l38 K i1 i2 i3 (wp_X8_sharp_L38 K i1 i2 i3 n) i4 i5 Mb := h
      delta wp_X8_sharp_l38 at h
      refine j_iload X 4 rfl dX8_sharp_38 ?_
      refine j_bipush X (v := 99) (by decide) dX8_sharp_40 ?_
      refine j_icmp_ge X 84 (by decide) dX8_sharp_42 (fun q_3801 => ?_) (fun q_3801 => ?_)
      · replace h := h.1 q_3801
        refine j_aload_n X 0 rfl rfl dX8_sharp_84 ?_
        refine j_iload_n X 1 rfl rfl dX8_sharp_85 ?_
        refine j_iconst X (v := 3) (by decide) dX8_sharp_86 ?_
        refine j_iload_n X 3 rfl rfl dX8_sharp_87 ?_
        refine j_callVV X (nn := 3) (As := [.int i1, .int 3, .int i3]) (st := []) (ci := 8) cl_79.1 (wE_8 _ cl_79.2) rfl aw_183 aw_184 (x_X8_gets l D y ad i1 3 i3 _ _ h) aw_182 aw_185 aw_5 (by decide +kernel) ⟨Nat.le_of_ble_eq_true rfl, Nat.le_of_ble_eq_true rfl⟩ rfl (Nat.le_of_ble_eq_true rfl) ⟨Nat.le_of_ble_eq_true rfl, Nat.le_of_ble_eq_true rfl⟩ dX8_sharp_88 ?_
        intro M3802 h
        refine j_iload X 5 rfl dX8_sharp_91 ?_
        refine j_if_eq X 101 (by decide) dX8_sharp_93 (fun q_3803 => ?_) (fun q_3803 => ?_)
        · replace h := h.1 q_3803
          refine j_aload_n X 0 rfl rfl dX8_sharp_101 ?_
          refine j_ldc X (v := (-1000000002)) aw_565 dX8_sharp_102 ?_
          refine j_callVI X (nn := 1) (As := [.int (-1000000002)]) (st := []) (ci := 8) cl_79.1 (wE_8 _ cl_79.2) rfl aw_144 aw_145 (x_X8_errs l D y ad (-1000000002) _ _ h) aw_143 aw_146 aw_5 (by decide +kernel) ⟨Nat.le_of_ble_eq_true rfl, Nat.le_of_ble_eq_true rfl⟩ rfl (Nat.le_of_ble_eq_true rfl) ⟨Nat.le_of_ble_eq_true rfl, Nat.le_of_ble_eq_true rfl⟩ dX8_sharp_104 ?_
          intro r3804 M3804 h
          exact j_iret X hr hlocks dX8_sharp_107 h
        · replace h := h.2 q_3803
          refine j_iload X 4 rfl dX8_sharp_96 ?_
          refine j_goto X 107 (by decide) dX8_sharp_98 ?_
          exact j_iret X hr hlocks dX8_sharp_107 h
      · replace h := h.2 q_3801
        refine j_iload X 5 rfl dX8_sharp_45 ?_
        refine j_if_ne X 84 (by decide) dX8_sharp_47 (fun q_3805 => ?_) (fun q_3805 => ?_)
        · replace h := h.1 q_3805
          refine j_aload_n X 0 rfl rfl dX8_sharp_84 ?_
          refine j_iload_n X 1 rfl rfl dX8_sharp_85 ?_
          refine j_iconst X (v := 3) (by decide) dX8_sharp_86 ?_
          refine j_iload_n X 3 rfl rfl dX8_sharp_87 ?_
          refine j_callVV X (nn := 3) (As := [.int i1, .int 3, .int i3]) (st := []) (ci := 8) cl_79.1 (wE_8 _ cl_79.2) rfl aw_183 aw_184 (x_X8_gets l D y ad i1 3 i3 _ _ h) aw_182 aw_185 aw_5 (by decide +kernel) ⟨Nat.le_of_ble_eq_true rfl, Nat.le_of_ble_eq_true rfl⟩ rfl (Nat.le_of_ble_eq_true rfl) ⟨Nat.le_of_ble_eq_true rfl, Nat.le_of_ble_eq_true rfl⟩ dX8_sharp_88 ?_
          intro M3806 h
          refine j_iload X 5 rfl dX8_sharp_91 ?_
          refine j_if_eq X 101 (by decide) dX8_sharp_93 (fun q_3807 => ?_) (fun q_3807 => ?_)
          · replace h := h.1 q_3807
            refine j_aload_n X 0 rfl rfl dX8_sharp_101 ?_
            refine j_ldc X (v := (-1000000002)) aw_565 dX8_sharp_102 ?_
            refine j_callVI X (nn := 1) (As := [.int (-1000000002)]) (st := []) (ci := 8) cl_79.1 (wE_8 _ cl_79.2) rfl aw_144 aw_145 (x_X8_errs l D y ad (-1000000002) _ _ h) aw_143 aw_146 aw_5 (by decide +kernel) ⟨Nat.le_of_ble_eq_true rfl, Nat.le_of_ble_eq_true rfl⟩ rfl (Nat.le_of_ble_eq_true rfl) ⟨Nat.le_of_ble_eq_true rfl, Nat.le_of_ble_eq_true rfl⟩ dX8_sharp_104 ?_
            intro r3808 M3808 h
            exact j_iret X hr hlocks dX8_sharp_107 h
          · replace h := h.2 q_3807
            refine j_iload X 4 rfl dX8_sharp_96 ?_
            refine j_goto X 107 (by decide) dX8_sharp_98 ?_
            exact j_iret X hr hlocks dX8_sharp_107 h
        · replace h := h.2 q_3805
          refine j_iinc X (v := (i4 + 1)) 4 [(4, .int (i4 + 1)), (0, .ref (ad 79)), (1, .int i1), (2, .int i2), (3, .int i3), (5, .int i5)] rfl rfl (by decide) rfl dX8_sharp_50 ?_
          refine j_aload_n X 1 rfl rfl dX8_sharp_53 ?_
          refine j_iload_n X 2 rfl rfl dX8_sharp_54 ?_
          refine j_iconst X (v := 3) (by decide) dX8_sharp_55 ?_
          refine j_iload X 0 rfl dX8_sharp_56 ?_
          refine j_callVV X (nn := 3) (As := [.int i1, .int 3, .int (i4 + 1)]) (st := []) (ci := 8) cl_79.1 (wE_8 _ cl_79.2) rfl aw_183 aw_184 (x_X8_gets l D y ad i1 3 (i4 + 1) _ _ h) aw_182 aw_185 aw_5 (by decide +kernel) ⟨Nat.le_of_ble_eq_true rfl, Nat.le_of_ble_eq_true rfl⟩ rfl (Nat.le_of_ble_eq_true rfl) ⟨Nat.le_of_ble_eq_true rfl, Nat.le_of_ble_eq_true rfl⟩ dX8_sharp_58 ?_
          intro M3809 h
          refine j_aload_n X 1 rfl rfl dX8_sharp_61 ?_
          refine j_iload_n X 3 rfl rfl dX8_sharp_62 ?_
          refine j_callVI X (nn := 1) (As := [.int i2]) (st := []) (ci := 8) cl_79.1 (wE_8 _ cl_79.2) rfl aw_575 aw_576 (x_X8_overBehind l D y ad i2 _ _ h) aw_574 aw_577 aw_5 (by decide +kernel) ⟨Nat.le_of_ble_eq_true rfl, Nat.le_of_ble_eq_true rfl⟩ rfl (Nat.le_of_ble_eq_true rfl) ⟨Nat.le_of_ble_eq_true rfl, Nat.le_of_ble_eq_true rfl⟩ dX8_sharp_63 ?_
          intro r3810 M3810 h
          refine j_iload_n X 2 rfl rfl dX8_sharp_66 ?_
          refine j_ishr X dX8_sharp_67 ?_
          refine j_iconst X (v := 1) (by decide) dX8_sharp_68 ?_
          refine j_iand X dX8_sharp_69 ?_
          refine j_iconst X (v := 1) (by decide) dX8_sharp_70 ?_
          refine j_icmp_ne X 78 (by decide) dX8_sharp_71 (fun q_3811 => ?_) (fun q_3811 => ?_)
          · replace h := h.1 q_3811
            refine j_iconst X (v := 0) (by decide) dX8_sharp_78 ?_
            refine j_istore X [(5, .int 0), (4, .int (i4 + 1)), (0, .ref (ad 79)), (1, .int i1), (2, .int i2), (3, .int i3)] (by decide) rfl dX8_sharp_79 ?_
            refine j_goto X 38 (by decide) dX8_sharp_81 ?_
            refine j_lv (lv1 := [(0, .ref (ad 79)), (1, .int i1), (2, .int i2), (3, .int i3), (4, .int (i4 + 1)), (5, .int 0)]) [2, 3, 4, 5, 1, 0] rfl ?_
            exact hB38 _ _ _ h
          · replace h := h.2 q_3811
            refine j_iconst X (v := 1) (by decide) dX8_sharp_74 ?_
            refine j_goto X 79 (by decide) dX8_sharp_75 ?_
            refine j_istore X [(5, .int 1), (4, .int (i4 + 1)), (0, .ref (ad 79)), (1, .int i1), (2, .int i2), (3, .int i3)] (by decide) rfl dX8_sharp_79 ?_
            refine j_goto X 38 (by decide) dX8_sharp_81 ?_
            refine j_lv (lv1 := [(0, .ref (ad 79)), (1, .int i1), (2, .int i2), (3, .int i3), (4, .int (i4 + 1)), (5, .int 1)]) [2, 3, 4, 5, 1, 0] rfl ?_
            exact hB38 _ _ _ h
  delta wp_X8_sharp at h
  refine j_lv (lv1 := [(0, .ref (ad 79)), (1, .int i1), (2, .int i2)]) [0, 1, 2] rfl ?_
  refine j_aload_n X 0 rfl rfl dX8_sharp_0 ?_
  refine j_iload_n X 1 rfl rfl dX8_sharp_1 ?_
  refine j_callVI X (nn := 1) (As := [.int i1]) (st := []) (ci := 8) cl_79.1 (wE_8 _ cl_79.2) rfl aw_231 aw_232 (x_X8_isQuarrel l D y ad i1 _ _ h) aw_230 aw_233 aw_5 (by decide +kernel) ⟨Nat.le_of_ble_eq_true rfl, Nat.le_of_ble_eq_true rfl⟩ rfl (Nat.le_of_ble_eq_true rfl) ⟨Nat.le_of_ble_eq_true rfl, Nat.le_of_ble_eq_true rfl⟩ dX8_sharp_2 ?_
  intro r1 M1 h
  refine j_if_eq X 18 (by decide) dX8_sharp_5 (fun q_2 => ?_) (fun q_2 => ?_)
  · replace h := h.1 q_2
    refine j_aload_n X 0 rfl rfl dX8_sharp_18 ?_
    refine j_ldc X (v := (-1000000001)) aw_132 dX8_sharp_19 ?_
    refine j_callVI X (nn := 1) (As := [.int (-1000000001)]) (st := []) (ci := 8) cl_79.1 (wE_8 _ cl_79.2) rfl aw_144 aw_145 (x_X8_errs l D y ad (-1000000001) _ _ h) aw_143 aw_146 aw_5 (by decide +kernel) ⟨Nat.le_of_ble_eq_true rfl, Nat.le_of_ble_eq_true rfl⟩ rfl (Nat.le_of_ble_eq_true rfl) ⟨Nat.le_of_ble_eq_true rfl, Nat.le_of_ble_eq_true rfl⟩ dX8_sharp_21 ?_
    intro r3 M3 h
    exact j_iret X hr hlocks dX8_sharp_24 h
  · replace h := h.2 q_2
    refine j_iload_n X 2 rfl rfl dX8_sharp_8 ?_
    refine j_iconst X (v := 1) (by decide) dX8_sharp_9 ?_
    refine j_bipush X (v := 60) (by decide) dX8_sharp_10 ?_
    refine j_callSI X (nn := 3) (As := [.int i2, .int 1, .int 60]) (st := []) aw_134 (x_X8_in l D y ad i2 1 60 _ _ h) aw_133 aw_135 aw_5 (by decide +kernel) ⟨Nat.le_of_ble_eq_true rfl, Nat.le_of_ble_eq_true rfl⟩ rfl (Nat.le_of_ble_eq_true rfl) ⟨Nat.le_of_ble_eq_true rfl, Nat.le_of_ble_eq_true rfl⟩ dX8_sharp_12 ?_
    intro r4 M4 h
    refine j_if_ne X 25 (by decide) dX8_sharp_15 (fun q_5 => ?_) (fun q_5 => ?_)
    · replace h := h.1 q_5
      refine j_aload_n X 0 rfl rfl dX8_sharp_25 ?_
      refine j_iload_n X 1 rfl rfl dX8_sharp_26 ?_
      refine j_iconst X (v := 3) (by decide) dX8_sharp_27 ?_
      refine j_callVI X (nn := 2) (As := [.int i1, .int 3]) (st := []) (ci := 8) cl_79.1 (wE_8 _ cl_79.2) rfl aw_161 aw_162 (x_X8_its l D y ad i1 3 _ _ h) aw_160 aw_163 aw_5 (by decide +kernel) ⟨Nat.le_of_ble_eq_true rfl, Nat.le_of_ble_eq_true rfl⟩ rfl (Nat.le_of_ble_eq_true rfl) ⟨Nat.le_of_ble_eq_true rfl, Nat.le_of_ble_eq_true rfl⟩ dX8_sharp_28 ?_
      intro r6 M6 h
      refine j_istore_n X [(3, .int r6), (0, .ref (ad 79)), (1, .int i1), (2, .int i2)] rfl (by decide) rfl dX8_sharp_31 ?_
      refine j_iconst X (v := (-1)) (by decide) dX8_sharp_32 ?_
      refine j_istore X [(4, .int (-1)), (3, .int r6), (0, .ref (ad 79)), (1, .int i1), (2, .int i2)] (by decide) rfl dX8_sharp_33 ?_
      refine j_iconst X (v := 0) (by decide) dX8_sharp_35 ?_
      refine j_istore X [(5, .int 0), (4, .int (-1)), (3, .int r6), (0, .ref (ad 79)), (1, .int i1), (2, .int i2)] (by decide) rfl dX8_sharp_36 ?_
      refine j_lv (lv1 := [(0, .ref (ad 79)), (1, .int i1), (2, .int i2), (3, .int r6), (4, .int (-1)), (5, .int 0)]) [3, 4, 5, 2, 1, 0] rfl ?_
      obtain ⟨n38, h⟩ := h
      exact hL38 _ _ _   n38 _ _ _ h
    · replace h := h.2 q_5
      refine j_aload_n X 0 rfl rfl dX8_sharp_18 ?_
      refine j_ldc X (v := (-1000000001)) aw_132 dX8_sharp_19 ?_
      refine j_callVI X (nn := 1) (As := [.int (-1000000001)]) (st := []) (ci := 8) cl_79.1 (wE_8 _ cl_79.2) rfl aw_144 aw_145 (x_X8_errs l D y ad (-1000000001) _ _ h) aw_143 aw_146 aw_5 (by decide +kernel) ⟨Nat.le_of_ble_eq_true rfl, Nat.le_of_ble_eq_true rfl⟩ rfl (Nat.le_of_ble_eq_true rfl) ⟨Nat.le_of_ble_eq_true rfl, Nat.le_of_ble_eq_true rfl⟩ dX8_sharp_21 ?_
      intro r7 M7 h
      exact j_iret X hr hlocks dX8_sharp_24 h
theorem dX8_off_0 : decode cX8_off 0 = .ok (.iload_n 1, 1) := dk_27 (by decide +kernel)
theorem dX8_off_1 : decode cX8_off 1 = .ok (.iconst 0, 1) := dk_3 (by decide +kernel)
theorem dX8_off_2 : decode cX8_off 2 = .ok (.bipush 60, 2) := dk_16 (by decide +kernel)
theorem dX8_off_4 : decode cX8_off 4 = .ok (.invokestatic 47, 3) := dk_184 (by decide +kernel)
theorem dX8_off_7 : decode cX8_off 7 = .ok (.ifCond .ne 10, 3) := dk_154 (by decide +kernel)
theorem dX8_off_17 : decode cX8_off 17 = .ok (.iload_n 1, 1) := dk_27 (by decide +kernel)
theorem dX8_off_18 : decode cX8_off 18 = .ok (.ifCond .ne 5, 3) := dk_154 (by decide +kernel)
theorem dX8_off_23 : decode cX8_off 23 = .ok (.aload_n 0, 1) := dk_42 (by decide +kernel)
theorem dX8_off_24 : decode cX8_off 24 = .ok (.aload_n 0, 1) := dk_42 (by decide +kernel)
theorem dX8_off_25 : decode cX8_off 25 = .ok (.getfield 7, 3) := dk_180 (by decide +kernel)
theorem dX8_off_28 : decode cX8_off 28 = .ok (.aload_n 0, 1) := dk_42 (by decide +kernel)
theorem dX8_off_29 : decode cX8_off 29 = .ok (.getfield 16, 3) := dk_180 (by decide +kernel)
theorem dX8_off_32 : decode cX8_off 32 = .ok (.invokevirtual 175, 3) := dk_182 (by decide +kernel)
theorem dX8_off_35 : decode cX8_off 35 = .ok (.aload_n 0, 1) := dk_42 (by decide +kernel)
theorem dX8_off_36 : decode cX8_off 36 = .ok (.iconst 0, 1) := dk_3 (by decide +kernel)
theorem dX8_off_37 : decode cX8_off 37 = .ok (.invokevirtual 171, 3) := dk_182 (by decide +kernel)
theorem dX8_off_40 : decode cX8_off 40 = .ok (.aload_n 0, 1) := dk_42 (by decide +kernel)
theorem dX8_off_41 : decode cX8_off 41 = .ok (.iload_n 1, 1) := dk_27 (by decide +kernel)
theorem dX8_off_42 : decode cX8_off 42 = .ok (.iconst 1, 1) := dk_4 (by decide +kernel)
theorem dX8_off_43 : decode cX8_off 43 = .ok (.isub, 1) := dk_100 (by decide +kernel)
theorem dX8_off_44 : decode cX8_off 44 = .ok (.invokevirtual 179, 3) := dk_182 (by decide +kernel)
theorem dX8_off_47 : decode cX8_off 47 = .ok (.aload_n 0, 1) := dk_42 (by decide +kernel)
theorem dX8_off_48 : decode cX8_off 48 = .ok (.getfield 7, 3) := dk_180 (by decide +kernel)
theorem dX8_off_51 : decode cX8_off 51 = .ok (.bipush 9, 2) := dk_16 (by decide +kernel)
theorem dX8_off_53 : decode cX8_off 53 = .ok (.iaload, 1) := dk_46 (by decide +kernel)
theorem dX8_off_54 : decode cX8_off 54 = .ok (.istore_n 2, 1) := dk_61 (by decide +kernel)
theorem dX8_off_55 : decode cX8_off 55 = .ok (.aload_n 0, 1) := dk_42 (by decide +kernel)
theorem dX8_off_56 : decode cX8_off 56 = .ok (.aload_n 0, 1) := dk_42 (by decide +kernel)
theorem dX8_off_57 : decode cX8_off 57 = .ok (.getfield 16, 3) := dk_180 (by decide +kernel)
theorem dX8_off_60 : decode cX8_off 60 = .ok (.aload_n 0, 1) := dk_42 (by decide +kernel)
theorem dX8_off_61 : decode cX8_off 61 = .ok (.getfield 7, 3) := dk_180 (by decide +kernel)
theorem dX8_off_64 : decode cX8_off 64 = .ok (.invokevirtual 175, 3) := dk_182 (by decide +kernel)
theorem dX8_off_67 : decode cX8_off 67 = .ok (.aload_n 0, 1) := dk_42 (by decide +kernel)
theorem dX8_off_68 : decode cX8_off 68 = .ok (.iload_n 1, 1) := dk_27 (by decide +kernel)
theorem dX8_off_69 : decode cX8_off 69 = .ok (.invokevirtual 179, 3) := dk_182 (by decide +kernel)
theorem dX8_off_72 : decode cX8_off 72 = .ok (.iload_n 2, 1) := dk_28 (by decide +kernel)
theorem dX8_off_73 : decode cX8_off 73 = .ok (.aload_n 0, 1) := dk_42 (by decide +kernel)
theorem dX8_off_74 : decode cX8_off 74 = .ok (.getfield 7, 3) := dk_180 (by decide +kernel)
theorem dX8_off_77 : decode cX8_off 77 = .ok (.bipush 9, 2) := dk_16 (by decide +kernel)
theorem dX8_off_79 : decode cX8_off 79 = .ok (.iaload, 1) := dk_46 (by decide +kernel)
theorem dX8_off_80 : decode cX8_off 80 = .ok (.isub, 1) := dk_100 (by decide +kernel)
theorem dX8_off_81 : decode cX8_off 81 = .ok (.istore_n 2, 1) := dk_61 (by decide +kernel)
theorem dX8_off_82 : decode cX8_off 82 = .ok (.aload_n 0, 1) := dk_42 (by decide +kernel)
theorem dX8_off_83 : decode cX8_off 83 = .ok (.aload_n 0, 1) := dk_42 (by decide +kernel)
theorem dX8_off_84 : decode cX8_off 84 = .ok (.getfield 16, 3) := dk_180 (by decide +kernel)
theorem dX8_off_87 : decode cX8_off 87 = .ok (.aload_n 0, 1) := dk_42 (by decide +kernel)
theorem dX8_off_88 : decode cX8_off 88 = .ok (.getfield 7, 3) := dk_180 (by decide +kernel)
theorem dX8_off_91 : decode cX8_off 91 = .ok (.invokevirtual 175, 3) := dk_182 (by decide +kernel)
theorem dX8_off_94 : decode cX8_off 94 = .ok (.iload_n 2, 1) := dk_28 (by decide +kernel)
theorem dX8_off_95 : decode cX8_off 95 = .ok (.ireturn, 1) := dk_172 (by decide +kernel)
theorem dX8_off_21 : decode cX8_off 21 = .ok (.iconst 0, 1) := dk_3 (by decide +kernel)
theorem dX8_off_22 : decode cX8_off 22 = .ok (.ireturn, 1) := dk_172 (by decide +kernel)
theorem dX8_off_10 : decode cX8_off 10 = .ok (.aload_n 0, 1) := dk_42 (by decide +kernel)
theorem dX8_off_11 : decode cX8_off 11 = .ok (.ldc 60, 2) := dk_18 (by decide +kernel)
theorem dX8_off_13 : decode cX8_off 13 = .ok (.invokevirtual 61, 3) := dk_182 (by decide +kernel)
theorem dX8_off_16 : decode cX8_off 16 = .ok (.ireturn, 1) := dk_172 (by decide +kernel)
set_option maxRecDepth 100000 in
set_option maxHeartbeats 8000000 in
theorem x_X8_off (l : Launch) (D : va_G) (y : wY) (ad : Nat → Nat) (i1 : Int32) (M : Mem) (K : Int32 → Mem → Prop) (h : wp_X8_off i1 M K) : MI l D y ad yX8_off (Cond.code yX8_off cX8_off 3 (some .int)) 7 M [.ref (ad 79), .int i1] K := by
  refine MI_of (by decide) (Nat.le_of_ble_eq_true rfl) ?_
  intro p e s m args below meth c X hr hlocks
  delta wp_X8_off at h
  refine j_lv (lv1 := [(0, .ref (ad 79)), (1, .int i1)]) [0, 1] rfl ?_
  refine j_iload_n X 1 rfl rfl dX8_off_0 ?_
  refine j_iconst X (v := 0) (by decide) dX8_off_1 ?_
  refine j_bipush X (v := 60) (by decide) dX8_off_2 ?_
  refine j_callSI X (nn := 3) (As := [.int i1, .int 0, .int 60]) (st := []) aw_134 (x_X8_in l D y ad i1 0 60 _ _ h) aw_133 aw_135 aw_5 (by decide +kernel) ⟨Nat.le_of_ble_eq_true rfl, Nat.le_of_ble_eq_true rfl⟩ rfl (Nat.le_of_ble_eq_true rfl) ⟨Nat.le_of_ble_eq_true rfl, Nat.le_of_ble_eq_true rfl⟩ dX8_off_4 ?_
  intro r1 M1 h
  refine j_if_ne X 17 (by decide) dX8_off_7 (fun q_2 => ?_) (fun q_2 => ?_)
  · replace h := h.1 q_2
    refine j_iload_n X 1 rfl rfl dX8_off_17 ?_
    refine j_if_ne X 23 (by decide) dX8_off_18 (fun q_3 => ?_) (fun q_3 => ?_)
    · replace h := h.1 q_3
      refine j_aload_n X 0 rfl rfl dX8_off_23 ?_
      refine j_aload_n X 0 rfl rfl dX8_off_24 ?_
      refine j_get X cl_79.1 (wE_8 _ cl_79.2) rfl awF8 0 (by decide) aw_92 rfl (v := .ref (ad 80)) rfl dX8_off_25 ?_
      refine j_aload_n X 0 rfl rfl dX8_off_28 ?_
      refine j_get X cl_79.1 (wE_8 _ cl_79.2) rfl awF8 2 (by decide) aw_94 rfl (v := .ref (ad 82)) rfl dX8_off_29 ?_
      refine j_callVV X (nn := 2) (As := [.ref (ad 80), .ref (ad 82)]) (st := []) (ci := 8) cl_79.1 (wE_8 _ cl_79.2) rfl aw_553 aw_554 (x_X8_moveAll l D y ad 80 82 cl_80 cl_82 _ _ h) aw_552 aw_555 aw_5 (by decide +kernel) ⟨Nat.le_of_ble_eq_true rfl, Nat.le_of_ble_eq_true rfl⟩ rfl (Nat.le_of_ble_eq_true rfl) ⟨Nat.le_of_ble_eq_true rfl, Nat.le_of_ble_eq_true rfl⟩ dX8_off_32 ?_
      intro M4 h
      refine j_aload_n X 0 rfl rfl dX8_off_35 ?_
      refine j_iconst X (v := 0) (by decide) dX8_off_36 ?_
      refine j_callVV X (nn := 1) (As := [.int 0]) (st := []) (ci := 8) cl_79.1 (wE_8 _ cl_79.2) rfl aw_486 aw_487 (x_X8_oneDay l D y ad 0 _ _ h) aw_485 aw_488 aw_5 (by decide +kernel) ⟨Nat.le_of_ble_eq_true rfl, Nat.le_of_ble_eq_true rfl⟩ rfl (Nat.le_of_ble_eq_true rfl) ⟨Nat.le_of_ble_eq_true rfl, Nat.le_of_ble_eq_true rfl⟩ dX8_off_37 ?_
      intro M5 h
      refine j_aload_n X 0 rfl rfl dX8_off_40 ?_
      refine j_iload_n X 1 rfl rfl dX8_off_41 ?_
      refine j_iconst X (v := 1) (by decide) dX8_off_42 ?_
      refine j_isub X dX8_off_43 ?_
      refine j_callVV X (nn := 1) (As := [.int (i1 - 1)]) (st := []) (ci := 8) cl_79.1 (wE_8 _ cl_79.2) rfl aw_482 aw_483 (x_X8_passes l D y ad (i1 - 1) _ _ h) aw_481 aw_484 aw_5 (by decide +kernel) ⟨Nat.le_of_ble_eq_true rfl, Nat.le_of_ble_eq_true rfl⟩ rfl (Nat.le_of_ble_eq_true rfl) ⟨Nat.le_of_ble_eq_true rfl, Nat.le_of_ble_eq_true rfl⟩ dX8_off_44 ?_
      intro M6 h
      refine j_aload_n X 0 rfl rfl dX8_off_47 ?_
      refine j_get X cl_79.1 (wE_8 _ cl_79.2) rfl awF8 0 (by decide) aw_92 rfl (v := .ref (ad 80)) rfl dX8_off_48 ?_
      refine j_bipush X (v := 9) (by decide) dX8_off_51 ?_
      refine j_iald X cl_80.1 cl_80.2 (by unfold vp_in; decide) dX8_off_53 ?_
      refine j_eqi (v := M6 80 9) rfl ?_
      refine j_istore_n X [(2, .int (M6 80 9)), (0, .ref (ad 79)), (1, .int i1)] rfl (by decide) rfl dX8_off_54 ?_
      refine j_aload_n X 1 rfl rfl dX8_off_55 ?_
      refine j_aload_n X 1 rfl rfl dX8_off_56 ?_
      refine j_get X cl_79.1 (wE_8 _ cl_79.2) rfl awF8 2 (by decide) aw_94 rfl (v := .ref (ad 82)) rfl dX8_off_57 ?_
      refine j_aload_n X 1 rfl rfl dX8_off_60 ?_
      refine j_get X cl_79.1 (wE_8 _ cl_79.2) rfl awF8 0 (by decide) aw_92 rfl (v := .ref (ad 80)) rfl dX8_off_61 ?_
      refine j_callVV X (nn := 2) (As := [.ref (ad 82), .ref (ad 80)]) (st := []) (ci := 8) cl_79.1 (wE_8 _ cl_79.2) rfl aw_553 aw_554 (x_X8_moveAll l D y ad 82 80 cl_82 cl_80 _ _ h) aw_552 aw_555 aw_5 (by decide +kernel) ⟨Nat.le_of_ble_eq_true rfl, Nat.le_of_ble_eq_true rfl⟩ rfl (Nat.le_of_ble_eq_true rfl) ⟨Nat.le_of_ble_eq_true rfl, Nat.le_of_ble_eq_true rfl⟩ dX8_off_64 ?_
      intro M7 h
      refine j_aload_n X 1 rfl rfl dX8_off_67 ?_
      refine j_iload_n X 2 rfl rfl dX8_off_68 ?_
      refine j_callVV X (nn := 1) (As := [.int i1]) (st := []) (ci := 8) cl_79.1 (wE_8 _ cl_79.2) rfl aw_482 aw_483 (x_X8_passes l D y ad i1 _ _ h) aw_481 aw_484 aw_5 (by decide +kernel) ⟨Nat.le_of_ble_eq_true rfl, Nat.le_of_ble_eq_true rfl⟩ rfl (Nat.le_of_ble_eq_true rfl) ⟨Nat.le_of_ble_eq_true rfl, Nat.le_of_ble_eq_true rfl⟩ dX8_off_69 ?_
      intro M8 h
      refine j_iload_n X 0 rfl rfl dX8_off_72 ?_
      refine j_aload_n X 1 rfl rfl dX8_off_73 ?_
      refine j_get X cl_79.1 (wE_8 _ cl_79.2) rfl awF8 0 (by decide) aw_92 rfl (v := .ref (ad 80)) rfl dX8_off_74 ?_
      refine j_bipush X (v := 9) (by decide) dX8_off_77 ?_
      refine j_iald X cl_80.1 cl_80.2 (by unfold vp_in; decide) dX8_off_79 ?_
      refine j_eqi (v := M8 80 9) rfl ?_
      refine j_isub X dX8_off_80 ?_
      refine j_istore_n X [(2, .int ((M6 80 9) - (M8 80 9))), (0, .ref (ad 79)), (1, .int i1)] rfl (by decide) rfl dX8_off_81 ?_
      refine j_aload_n X 1 rfl rfl dX8_off_82 ?_
      refine j_aload_n X 1 rfl rfl dX8_off_83 ?_
      refine j_get X cl_79.1 (wE_8 _ cl_79.2) rfl awF8 2 (by decide) aw_94 rfl (v := .ref (ad 82)) rfl dX8_off_84 ?_
      refine j_aload_n X 1 rfl rfl dX8_off_87 ?_
      refine j_get X cl_79.1 (wE_8 _ cl_79.2) rfl awF8 0 (by decide) aw_92 rfl (v := .ref (ad 80)) rfl dX8_off_88 ?_
      refine j_callVV X (nn := 2) (As := [.ref (ad 82), .ref (ad 80)]) (st := []) (ci := 8) cl_79.1 (wE_8 _ cl_79.2) rfl aw_553 aw_554 (x_X8_moveAll l D y ad 82 80 cl_82 cl_80 _ _ h) aw_552 aw_555 aw_5 (by decide +kernel) ⟨Nat.le_of_ble_eq_true rfl, Nat.le_of_ble_eq_true rfl⟩ rfl (Nat.le_of_ble_eq_true rfl) ⟨Nat.le_of_ble_eq_true rfl, Nat.le_of_ble_eq_true rfl⟩ dX8_off_91 ?_
      intro M9 h
      refine j_iload_n X 0 rfl rfl dX8_off_94 ?_
      exact j_iret X hr hlocks dX8_off_95 h
    · replace h := h.2 q_3
      refine j_iconst X (v := 0) (by decide) dX8_off_21 ?_
      exact j_iret X hr hlocks dX8_off_22 h
  · replace h := h.2 q_2
    refine j_aload_n X 0 rfl rfl dX8_off_10 ?_
    refine j_ldc X (v := (-1000000001)) aw_132 dX8_off_11 ?_
    refine j_callVI X (nn := 1) (As := [.int (-1000000001)]) (st := []) (ci := 8) cl_79.1 (wE_8 _ cl_79.2) rfl aw_144 aw_145 (x_X8_errs l D y ad (-1000000001) _ _ h) aw_143 aw_146 aw_5 (by decide +kernel) ⟨Nat.le_of_ble_eq_true rfl, Nat.le_of_ble_eq_true rfl⟩ rfl (Nat.le_of_ble_eq_true rfl) ⟨Nat.le_of_ble_eq_true rfl, Nat.le_of_ble_eq_true rfl⟩ dX8_off_13 ?_
    intro r10 M10 h
    exact j_iret X hr hlocks dX8_off_16 h
theorem dX8_chain_21 : decode cX8_chain 21 = .ok (.iload_n 3, 1) := dk_29 (by decide +kernel)
theorem dX8_chain_22 : decode cX8_chain 22 = .ok (.aload_n 0, 1) := dk_42 (by decide +kernel)
theorem dX8_chain_23 : decode cX8_chain 23 = .ok (.getfield 7, 3) := dk_180 (by decide +kernel)
theorem dX8_chain_26 : decode cX8_chain 26 = .ok (.iconst 2, 1) := dk_5 (by decide +kernel)
theorem dX8_chain_27 : decode cX8_chain 27 = .ok (.iaload, 1) := dk_46 (by decide +kernel)
theorem dX8_chain_28 : decode cX8_chain 28 = .ok (.if_icmp .ge 68, 3) := dk_162 (by decide +kernel)
theorem dX8_chain_96 : decode cX8_chain 96 = .ok (.iload_n 2, 1) := dk_28 (by decide +kernel)
theorem dX8_chain_97 : decode cX8_chain 97 = .ok (.ireturn, 1) := dk_172 (by decide +kernel)
theorem dX8_chain_31 : decode cX8_chain 31 = .ok (.aload_n 0, 1) := dk_42 (by decide +kernel)
theorem dX8_chain_32 : decode cX8_chain 32 = .ok (.iload_n 3, 1) := dk_29 (by decide +kernel)
theorem dX8_chain_33 : decode cX8_chain 33 = .ok (.iconst 4, 1) := dk_7 (by decide +kernel)
theorem dX8_chain_34 : decode cX8_chain 34 = .ok (.invokevirtual 65, 3) := dk_182 (by decide +kernel)
theorem dX8_chain_37 : decode cX8_chain 37 = .ok (.istore 4, 2) := dk_54 (by decide +kernel)
theorem dX8_chain_39 : decode cX8_chain 39 = .ok (.aload_n 0, 1) := dk_42 (by decide +kernel)
theorem dX8_chain_40 : decode cX8_chain 40 = .ok (.iload_n 3, 1) := dk_29 (by decide +kernel)
theorem dX8_chain_41 : decode cX8_chain 41 = .ok (.invokevirtual 159, 3) := dk_182 (by decide +kernel)
theorem dX8_chain_44 : decode cX8_chain 44 = .ok (.ifCond .ne 28, 3) := dk_154 (by decide +kernel)
theorem dX8_chain_72 : decode cX8_chain 72 = .ok (.iconst 0, 1) := dk_3 (by decide +kernel)
theorem dX8_chain_73 : decode cX8_chain 73 = .ok (.istore 5, 2) := dk_54 (by decide +kernel)
theorem dX8_chain_75 : decode cX8_chain 75 = .ok (.iload_n 2, 1) := dk_28 (by decide +kernel)
theorem dX8_chain_76 : decode cX8_chain 76 = .ok (.iload 5, 2) := dk_21 (by decide +kernel)
theorem dX8_chain_78 : decode cX8_chain 78 = .ok (.ifCond .eq 9, 3) := dk_153 (by decide +kernel)
theorem dX8_chain_87 : decode cX8_chain 87 = .ok (.iconst 0, 1) := dk_3 (by decide +kernel)
theorem dX8_chain_88 : decode cX8_chain 88 = .ok (.ior, 1) := dk_128 (by decide +kernel)
theorem dX8_chain_89 : decode cX8_chain 89 = .ok (.istore_n 2, 1) := dk_61 (by decide +kernel)
theorem dX8_chain_90 : decode cX8_chain 90 = .ok (.iinc 3 1, 3) := dk_132 (by decide +kernel)
theorem dX8_chain_93 : decode cX8_chain 93 = .ok (.goto (-72), 3) := dk_167 (by decide +kernel)
theorem dX8_chain_47 : decode cX8_chain 47 = .ok (.iload 4, 2) := dk_21 (by decide +kernel)
theorem dX8_chain_49 : decode cX8_chain 49 = .ok (.ifCond .lt 23, 3) := dk_155 (by decide +kernel)
theorem dX8_chain_52 : decode cX8_chain 52 = .ok (.iload 4, 2) := dk_21 (by decide +kernel)
theorem dX8_chain_54 : decode cX8_chain 54 = .ok (.iload_n 1, 1) := dk_27 (by decide +kernel)
theorem dX8_chain_55 : decode cX8_chain 55 = .ok (.if_icmp .eq 13, 3) := dk_159 (by decide +kernel)
theorem dX8_chain_68 : decode cX8_chain 68 = .ok (.iconst 1, 1) := dk_4 (by decide +kernel)
theorem dX8_chain_69 : decode cX8_chain 69 = .ok (.goto 4, 3) := dk_167 (by decide +kernel)
theorem dX8_chain_81 : decode cX8_chain 81 = .ok (.iconst 1, 1) := dk_4 (by decide +kernel)
theorem dX8_chain_82 : decode cX8_chain 82 = .ok (.iload_n 3, 1) := dk_29 (by decide +kernel)
theorem dX8_chain_83 : decode cX8_chain 83 = .ok (.ishl, 1) := dk_120 (by decide +kernel)
theorem dX8_chain_84 : decode cX8_chain 84 = .ok (.goto 4, 3) := dk_167 (by decide +kernel)
theorem dX8_chain_58 : decode cX8_chain 58 = .ok (.iload_n 2, 1) := dk_28 (by decide +kernel)
theorem dX8_chain_59 : decode cX8_chain 59 = .ok (.iload 4, 2) := dk_21 (by decide +kernel)
theorem dX8_chain_61 : decode cX8_chain 61 = .ok (.ishr, 1) := dk_122 (by decide +kernel)
theorem dX8_chain_62 : decode cX8_chain 62 = .ok (.iconst 1, 1) := dk_4 (by decide +kernel)
theorem dX8_chain_63 : decode cX8_chain 63 = .ok (.iand, 1) := dk_126 (by decide +kernel)
theorem dX8_chain_64 : decode cX8_chain 64 = .ok (.iconst 1, 1) := dk_4 (by decide +kernel)
theorem dX8_chain_65 : decode cX8_chain 65 = .ok (.if_icmp .ne 7, 3) := dk_160 (by decide +kernel)
theorem dX8_chain_0 : decode cX8_chain 0 = .ok (.aload_n 0, 1) := dk_42 (by decide +kernel)
theorem dX8_chain_1 : decode cX8_chain 1 = .ok (.iload_n 1, 1) := dk_27 (by decide +kernel)
theorem dX8_chain_2 : decode cX8_chain 2 = .ok (.invokevirtual 73, 3) := dk_182 (by decide +kernel)
theorem dX8_chain_5 : decode cX8_chain 5 = .ok (.ifCond .ne 10, 3) := dk_154 (by decide +kernel)
theorem dX8_chain_15 : decode cX8_chain 15 = .ok (.iconst 0, 1) := dk_3 (by decide +kernel)
theorem dX8_chain_16 : decode cX8_chain 16 = .ok (.istore_n 2, 1) := dk_61 (by decide +kernel)
theorem dX8_chain_17 : decode cX8_chain 17 = .ok (.iload_n 1, 1) := dk_27 (by decide +kernel)
theorem dX8_chain_18 : decode cX8_chain 18 = .ok (.iconst 1, 1) := dk_4 (by decide +kernel)
theorem dX8_chain_19 : decode cX8_chain 19 = .ok (.iadd, 1) := dk_96 (by decide +kernel)
theorem dX8_chain_20 : decode cX8_chain 20 = .ok (.istore_n 3, 1) := dk_62 (by decide +kernel)
theorem dX8_chain_8 : decode cX8_chain 8 = .ok (.aload_n 0, 1) := dk_42 (by decide +kernel)
theorem dX8_chain_9 : decode cX8_chain 9 = .ok (.ldc 60, 2) := dk_18 (by decide +kernel)
theorem dX8_chain_11 : decode cX8_chain 11 = .ok (.invokevirtual 61, 3) := dk_182 (by decide +kernel)
theorem dX8_chain_14 : decode cX8_chain 14 = .ok (.ireturn, 1) := dk_172 (by decide +kernel)
set_option maxRecDepth 100000 in
set_option maxHeartbeats 8000000 in
theorem x_X8_chain (l : Launch) (D : va_G) (y : wY) (ad : Nat → Nat) (i1 : Int32) (M : Mem) (K : Int32 → Mem → Prop) (h : wp_X8_chain i1 M K) : MI l D y ad yX8_chain (Cond.code yX8_chain cX8_chain 6 (some .int)) 2 M [.ref (ad 79), .int i1] K := by
  refine MI_of (by decide) (Nat.le_of_ble_eq_true rfl) ?_
  intro p e s m args below meth c X hr hlocks
  have hL21 : ∀ (i1 : Int32) (n : Nat) (i2 : Int32) (i3 : Int32) (Mb : Mem), wp_X8_chain_L21 K i1 n i2 i3 Mb → J p l e (rmN 2) s m args below meth c 0 0 (QI K D y ad M s args below) D y ad (va_A (PL y ad M) s.heap.size) 6 Mb 21 [(0, .ref (ad 79)), (1, .int i1), (2, .int i2), (3, .int i3)] [] := by
    intro i1 n
    induction n with
    | zero => intro i2 i3 Mb h; exact False.elim h
    | succ n hB21 =>
      intro i2 i3 Mb h
      replace h : wp_X8_chain_l21 K i1 (wp_X8_chain_L21 K i1 n) i2 i3 Mb := h
      delta wp_X8_chain_l21 at h
      refine j_iload_n X 3 rfl rfl dX8_chain_21 ?_
      refine j_aload_n X 0 rfl rfl dX8_chain_22 ?_
      refine j_get X cl_79.1 (wE_8 _ cl_79.2) rfl awF8 0 (by decide) aw_92 rfl (v := .ref (ad 80)) rfl dX8_chain_23 ?_
      refine j_iconst X (v := 2) (by decide) dX8_chain_26 ?_
      refine j_iald X cl_80.1 cl_80.2 (by unfold vp_in; decide) dX8_chain_27 ?_
      refine j_eqi (v := Mb 80 2) rfl ?_
      refine j_icmp_ge X 96 (by decide) dX8_chain_28 (fun q_2101 => ?_) (fun q_2101 => ?_)
      · replace h := h.1 q_2101
        refine j_iload_n X 2 rfl rfl dX8_chain_96 ?_
        exact j_iret X hr hlocks dX8_chain_97 h
      · replace h := h.2 q_2101
        refine j_aload_n X 0 rfl rfl dX8_chain_31 ?_
        refine j_iload_n X 3 rfl rfl dX8_chain_32 ?_
        refine j_iconst X (v := 4) (by decide) dX8_chain_33 ?_
        refine j_callVI X (nn := 2) (As := [.int i3, .int 4]) (st := []) (ci := 8) cl_79.1 (wE_8 _ cl_79.2) rfl aw_161 aw_162 (x_X8_its l D y ad i3 4 _ _ h) aw_160 aw_163 aw_5 (by decide +kernel) ⟨Nat.le_of_ble_eq_true rfl, Nat.le_of_ble_eq_true rfl⟩ rfl (Nat.le_of_ble_eq_true rfl) ⟨Nat.le_of_ble_eq_true rfl, Nat.le_of_ble_eq_true rfl⟩ dX8_chain_34 ?_
        intro r2102 M2102 h
        refine j_istore X [(4, .int r2102), (0, .ref (ad 79)), (1, .int i1), (2, .int i2), (3, .int i3)] (by decide) rfl dX8_chain_37 ?_
        refine j_aload_n X 1 rfl rfl dX8_chain_39 ?_
        refine j_iload_n X 4 rfl rfl dX8_chain_40 ?_
        refine j_callVI X (nn := 1) (As := [.int i3]) (st := []) (ci := 8) cl_79.1 (wE_8 _ cl_79.2) rfl aw_494 aw_495 (x_X8_isOver l D y ad i3 _ _ h) aw_493 aw_496 aw_5 (by decide +kernel) ⟨Nat.le_of_ble_eq_true rfl, Nat.le_of_ble_eq_true rfl⟩ rfl (Nat.le_of_ble_eq_true rfl) ⟨Nat.le_of_ble_eq_true rfl, Nat.le_of_ble_eq_true rfl⟩ dX8_chain_41 ?_
        intro r2103 M2103 h
        refine j_if_ne X 72 (by decide) dX8_chain_44 (fun q_2104 => ?_) (fun q_2104 => ?_)
        · replace h := h.1 q_2104
          refine j_iconst X (v := 0) (by decide) dX8_chain_72 ?_
          refine j_istore X [(5, .int 0), (4, .int r2102), (0, .ref (ad 79)), (1, .int i1), (2, .int i2), (3, .int i3)] (by decide) rfl dX8_chain_73 ?_
          refine j_iload_n X 4 rfl rfl dX8_chain_75 ?_
          refine j_iload X 0 rfl dX8_chain_76 ?_
          refine j_if_eq X 87 (by decide) dX8_chain_78 (fun _ => ?_) (fun q_2105 => False.elim (by revert q_2105; decide))
          refine j_iconst X (v := 0) (by decide) dX8_chain_87 ?_
          refine j_ior X dX8_chain_88 ?_
          refine j_istore_n X [(2, .int (i2 ||| 0)), (5, .int 0), (4, .int r2102), (0, .ref (ad 79)), (1, .int i1), (3, .int i3)] rfl (by decide) rfl dX8_chain_89 ?_
          refine j_iinc X (v := (i3 + 1)) 5 [(3, .int (i3 + 1)), (2, .int (i2 ||| 0)), (5, .int 0), (4, .int r2102), (0, .ref (ad 79)), (1, .int i1)] rfl rfl (by decide) rfl dX8_chain_90 ?_
          refine j_goto X 21 (by decide) dX8_chain_93 ?_
          refine j_lv (lv1 := [(0, .ref (ad 79)), (1, .int i1), (2, .int (i2 ||| 0)), (3, .int (i3 + 1))]) [4, 5, 1, 0] rfl ?_
          exact hB21 _ _ _ h
        · replace h := h.2 q_2104
          refine j_iload X 0 rfl dX8_chain_47 ?_
          refine j_if_lt X 72 (by decide) dX8_chain_49 (fun q_2106 => ?_) (fun q_2106 => ?_)
          · replace h := h.1 q_2106
            refine j_iconst X (v := 0) (by decide) dX8_chain_72 ?_
            refine j_istore X [(5, .int 0), (4, .int r2102), (0, .ref (ad 79)), (1, .int i1), (2, .int i2), (3, .int i3)] (by decide) rfl dX8_chain_73 ?_
            refine j_iload_n X 4 rfl rfl dX8_chain_75 ?_
            refine j_iload X 0 rfl dX8_chain_76 ?_
            refine j_if_eq X 87 (by decide) dX8_chain_78 (fun _ => ?_) (fun q_2107 => False.elim (by revert q_2107; decide))
            refine j_iconst X (v := 0) (by decide) dX8_chain_87 ?_
            refine j_ior X dX8_chain_88 ?_
            refine j_istore_n X [(2, .int (i2 ||| 0)), (5, .int 0), (4, .int r2102), (0, .ref (ad 79)), (1, .int i1), (3, .int i3)] rfl (by decide) rfl dX8_chain_89 ?_
            refine j_iinc X (v := (i3 + 1)) 5 [(3, .int (i3 + 1)), (2, .int (i2 ||| 0)), (5, .int 0), (4, .int r2102), (0, .ref (ad 79)), (1, .int i1)] rfl rfl (by decide) rfl dX8_chain_90 ?_
            refine j_goto X 21 (by decide) dX8_chain_93 ?_
            refine j_lv (lv1 := [(0, .ref (ad 79)), (1, .int i1), (2, .int (i2 ||| 0)), (3, .int (i3 + 1))]) [4, 5, 1, 0] rfl ?_
            exact hB21 _ _ _ h
          · replace h := h.2 q_2106
            refine j_iload X 0 rfl dX8_chain_52 ?_
            refine j_iload_n X 2 rfl rfl dX8_chain_54 ?_
            refine j_icmp_eq X 68 (by decide) dX8_chain_55 (fun q_2108 => ?_) (fun q_2108 => ?_)
            · replace h := h.1 q_2108
              refine j_iconst X (v := 1) (by decide) dX8_chain_68 ?_
              refine j_goto X 73 (by decide) dX8_chain_69 ?_
              refine j_istore X [(5, .int 1), (4, .int r2102), (0, .ref (ad 79)), (1, .int i1), (2, .int i2), (3, .int i3)] (by decide) rfl dX8_chain_73 ?_
              refine j_iload_n X 4 rfl rfl dX8_chain_75 ?_
              refine j_iload X 0 rfl dX8_chain_76 ?_
              refine j_if_eq X 87 (by decide) dX8_chain_78 (fun q_2109 => False.elim (by revert q_2109; decide)) (fun _ => ?_)
              refine j_iconst X (v := 1) (by decide) dX8_chain_81 ?_
              refine j_iload_n X 5 rfl rfl dX8_chain_82 ?_
              refine j_ishl X dX8_chain_83 ?_
              refine j_goto X 88 (by decide) dX8_chain_84 ?_
              refine j_ior X dX8_chain_88 ?_
              refine j_istore_n X [(2, .int (i2 ||| ((1 : Int32) <<< (i3 &&& 31)))), (5, .int 1), (4, .int r2102), (0, .ref (ad 79)), (1, .int i1), (3, .int i3)] rfl (by decide) rfl dX8_chain_89 ?_
              refine j_iinc X (v := (i3 + 1)) 5 [(3, .int (i3 + 1)), (2, .int (i2 ||| ((1 : Int32) <<< (i3 &&& 31)))), (5, .int 1), (4, .int r2102), (0, .ref (ad 79)), (1, .int i1)] rfl rfl (by decide) rfl dX8_chain_90 ?_
              refine j_goto X 21 (by decide) dX8_chain_93 ?_
              refine j_lv (lv1 := [(0, .ref (ad 79)), (1, .int i1), (2, .int (i2 ||| ((1 : Int32) <<< (i3 &&& 31)))), (3, .int (i3 + 1))]) [4, 5, 1, 0] rfl ?_
              exact hB21 _ _ _ h
            · replace h := h.2 q_2108
              refine j_iload_n X 3 rfl rfl dX8_chain_58 ?_
              refine j_iload X 0 rfl dX8_chain_59 ?_
              refine j_ishr X dX8_chain_61 ?_
              refine j_iconst X (v := 1) (by decide) dX8_chain_62 ?_
              refine j_iand X dX8_chain_63 ?_
              refine j_iconst X (v := 1) (by decide) dX8_chain_64 ?_
              refine j_icmp_ne X 72 (by decide) dX8_chain_65 (fun q_2110 => ?_) (fun q_2110 => ?_)
              · replace h := h.1 q_2110
                refine j_iconst X (v := 0) (by decide) dX8_chain_72 ?_
                refine j_istore X [(5, .int 0), (4, .int r2102), (0, .ref (ad 79)), (1, .int i1), (2, .int i2), (3, .int i3)] (by decide) rfl dX8_chain_73 ?_
                refine j_iload_n X 4 rfl rfl dX8_chain_75 ?_
                refine j_iload X 0 rfl dX8_chain_76 ?_
                refine j_if_eq X 87 (by decide) dX8_chain_78 (fun _ => ?_) (fun q_2111 => False.elim (by revert q_2111; decide))
                refine j_iconst X (v := 0) (by decide) dX8_chain_87 ?_
                refine j_ior X dX8_chain_88 ?_
                refine j_istore_n X [(2, .int (i2 ||| 0)), (5, .int 0), (4, .int r2102), (0, .ref (ad 79)), (1, .int i1), (3, .int i3)] rfl (by decide) rfl dX8_chain_89 ?_
                refine j_iinc X (v := (i3 + 1)) 5 [(3, .int (i3 + 1)), (2, .int (i2 ||| 0)), (5, .int 0), (4, .int r2102), (0, .ref (ad 79)), (1, .int i1)] rfl rfl (by decide) rfl dX8_chain_90 ?_
                refine j_goto X 21 (by decide) dX8_chain_93 ?_
                refine j_lv (lv1 := [(0, .ref (ad 79)), (1, .int i1), (2, .int (i2 ||| 0)), (3, .int (i3 + 1))]) [4, 5, 1, 0] rfl ?_
                exact hB21 _ _ _ h
              · replace h := h.2 q_2110
                refine j_iconst X (v := 1) (by decide) dX8_chain_68 ?_
                refine j_goto X 73 (by decide) dX8_chain_69 ?_
                refine j_istore X [(5, .int 1), (4, .int r2102), (0, .ref (ad 79)), (1, .int i1), (2, .int i2), (3, .int i3)] (by decide) rfl dX8_chain_73 ?_
                refine j_iload_n X 4 rfl rfl dX8_chain_75 ?_
                refine j_iload X 0 rfl dX8_chain_76 ?_
                refine j_if_eq X 87 (by decide) dX8_chain_78 (fun q_2112 => False.elim (by revert q_2112; decide)) (fun _ => ?_)
                refine j_iconst X (v := 1) (by decide) dX8_chain_81 ?_
                refine j_iload_n X 5 rfl rfl dX8_chain_82 ?_
                refine j_ishl X dX8_chain_83 ?_
                refine j_goto X 88 (by decide) dX8_chain_84 ?_
                refine j_ior X dX8_chain_88 ?_
                refine j_istore_n X [(2, .int (i2 ||| ((1 : Int32) <<< (i3 &&& 31)))), (5, .int 1), (4, .int r2102), (0, .ref (ad 79)), (1, .int i1), (3, .int i3)] rfl (by decide) rfl dX8_chain_89 ?_
                refine j_iinc X (v := (i3 + 1)) 5 [(3, .int (i3 + 1)), (2, .int (i2 ||| ((1 : Int32) <<< (i3 &&& 31)))), (5, .int 1), (4, .int r2102), (0, .ref (ad 79)), (1, .int i1)] rfl rfl (by decide) rfl dX8_chain_90 ?_
                refine j_goto X 21 (by decide) dX8_chain_93 ?_
                refine j_lv (lv1 := [(0, .ref (ad 79)), (1, .int i1), (2, .int (i2 ||| ((1 : Int32) <<< (i3 &&& 31)))), (3, .int (i3 + 1))]) [4, 5, 1, 0] rfl ?_
                exact hB21 _ _ _ h
  delta wp_X8_chain at h
  refine j_lv (lv1 := [(0, .ref (ad 79)), (1, .int i1)]) [0, 1] rfl ?_
  refine j_aload_n X 0 rfl rfl dX8_chain_0 ?_
  refine j_iload_n X 1 rfl rfl dX8_chain_1 ?_
  refine j_callVI X (nn := 1) (As := [.int i1]) (st := []) (ci := 8) cl_79.1 (wE_8 _ cl_79.2) rfl aw_231 aw_232 (x_X8_isQuarrel l D y ad i1 _ _ h) aw_230 aw_233 aw_5 (by decide +kernel) ⟨Nat.le_of_ble_eq_true rfl, Nat.le_of_ble_eq_true rfl⟩ rfl (Nat.le_of_ble_eq_true rfl) ⟨Nat.le_of_ble_eq_true rfl, Nat.le_of_ble_eq_true rfl⟩ dX8_chain_2 ?_
  intro r1 M1 h
  refine j_if_ne X 15 (by decide) dX8_chain_5 (fun q_2 => ?_) (fun q_2 => ?_)
  · replace h := h.1 q_2
    refine j_iconst X (v := 0) (by decide) dX8_chain_15 ?_
    refine j_istore_n X [(2, .int 0), (0, .ref (ad 79)), (1, .int i1)] rfl (by decide) rfl dX8_chain_16 ?_
    refine j_iload_n X 2 rfl rfl dX8_chain_17 ?_
    refine j_iconst X (v := 1) (by decide) dX8_chain_18 ?_
    refine j_iadd X dX8_chain_19 ?_
    refine j_istore_n X [(3, .int (i1 + 1)), (2, .int 0), (0, .ref (ad 79)), (1, .int i1)] rfl (by decide) rfl dX8_chain_20 ?_
    refine j_lv (lv1 := [(0, .ref (ad 79)), (1, .int i1), (2, .int 0), (3, .int (i1 + 1))]) [2, 3, 1, 0] rfl ?_
    obtain ⟨n21, h⟩ := h
    exact hL21 _   n21 _ _ _ h
  · replace h := h.2 q_2
    refine j_aload_n X 0 rfl rfl dX8_chain_8 ?_
    refine j_ldc X (v := (-1000000001)) aw_132 dX8_chain_9 ?_
    refine j_callVI X (nn := 1) (As := [.int (-1000000001)]) (st := []) (ci := 8) cl_79.1 (wE_8 _ cl_79.2) rfl aw_144 aw_145 (x_X8_errs l D y ad (-1000000001) _ _ h) aw_143 aw_146 aw_5 (by decide +kernel) ⟨Nat.le_of_ble_eq_true rfl, Nat.le_of_ble_eq_true rfl⟩ rfl (Nat.le_of_ble_eq_true rfl) ⟨Nat.le_of_ble_eq_true rfl, Nat.le_of_ble_eq_true rfl⟩ dX8_chain_11 ?_
    intro r3 M3 h
    exact j_iret X hr hlocks dX8_chain_14 h
theorem dX8_fee_0 : decode cX8_fee 0 = .ok (.iload_n 1, 1) := dk_27 (by decide +kernel)
theorem dX8_fee_1 : decode cX8_fee 1 = .ok (.iconst 0, 1) := dk_3 (by decide +kernel)
theorem dX8_fee_2 : decode cX8_fee 2 = .ok (.bipush 60, 2) := dk_16 (by decide +kernel)
theorem dX8_fee_4 : decode cX8_fee 4 = .ok (.invokestatic 47, 3) := dk_184 (by decide +kernel)
theorem dX8_fee_7 : decode cX8_fee 7 = .ok (.ifCond .ne 10, 3) := dk_154 (by decide +kernel)
theorem dX8_fee_17 : decode cX8_fee 17 = .ok (.aload_n 0, 1) := dk_42 (by decide +kernel)
theorem dX8_fee_18 : decode cX8_fee 18 = .ok (.aload_n 0, 1) := dk_42 (by decide +kernel)
theorem dX8_fee_19 : decode cX8_fee 19 = .ok (.getfield 7, 3) := dk_180 (by decide +kernel)
theorem dX8_fee_22 : decode cX8_fee 22 = .ok (.aload_n 0, 1) := dk_42 (by decide +kernel)
theorem dX8_fee_23 : decode cX8_fee 23 = .ok (.getfield 16, 3) := dk_180 (by decide +kernel)
theorem dX8_fee_26 : decode cX8_fee 26 = .ok (.invokevirtual 175, 3) := dk_182 (by decide +kernel)
theorem dX8_fee_29 : decode cX8_fee 29 = .ok (.aload_n 0, 1) := dk_42 (by decide +kernel)
theorem dX8_fee_30 : decode cX8_fee 30 = .ok (.iload_n 1, 1) := dk_27 (by decide +kernel)
theorem dX8_fee_31 : decode cX8_fee 31 = .ok (.invokevirtual 179, 3) := dk_182 (by decide +kernel)
theorem dX8_fee_34 : decode cX8_fee 34 = .ok (.aload_n 0, 1) := dk_42 (by decide +kernel)
theorem dX8_fee_35 : decode cX8_fee 35 = .ok (.getfield 7, 3) := dk_180 (by decide +kernel)
theorem dX8_fee_38 : decode cX8_fee 38 = .ok (.bipush 10, 2) := dk_16 (by decide +kernel)
theorem dX8_fee_40 : decode cX8_fee 40 = .ok (.iaload, 1) := dk_46 (by decide +kernel)
theorem dX8_fee_41 : decode cX8_fee 41 = .ok (.aload_n 0, 1) := dk_42 (by decide +kernel)
theorem dX8_fee_42 : decode cX8_fee 42 = .ok (.getfield 16, 3) := dk_180 (by decide +kernel)
theorem dX8_fee_45 : decode cX8_fee 45 = .ok (.bipush 10, 2) := dk_16 (by decide +kernel)
theorem dX8_fee_47 : decode cX8_fee 47 = .ok (.iaload, 1) := dk_46 (by decide +kernel)
theorem dX8_fee_48 : decode cX8_fee 48 = .ok (.isub, 1) := dk_100 (by decide +kernel)
theorem dX8_fee_49 : decode cX8_fee 49 = .ok (.istore_n 2, 1) := dk_61 (by decide +kernel)
theorem dX8_fee_50 : decode cX8_fee 50 = .ok (.aload_n 0, 1) := dk_42 (by decide +kernel)
theorem dX8_fee_51 : decode cX8_fee 51 = .ok (.aload_n 0, 1) := dk_42 (by decide +kernel)
theorem dX8_fee_52 : decode cX8_fee 52 = .ok (.getfield 16, 3) := dk_180 (by decide +kernel)
theorem dX8_fee_55 : decode cX8_fee 55 = .ok (.aload_n 0, 1) := dk_42 (by decide +kernel)
theorem dX8_fee_56 : decode cX8_fee 56 = .ok (.getfield 7, 3) := dk_180 (by decide +kernel)
theorem dX8_fee_59 : decode cX8_fee 59 = .ok (.invokevirtual 175, 3) := dk_182 (by decide +kernel)
theorem dX8_fee_62 : decode cX8_fee 62 = .ok (.iload_n 2, 1) := dk_28 (by decide +kernel)
theorem dX8_fee_63 : decode cX8_fee 63 = .ok (.ireturn, 1) := dk_172 (by decide +kernel)
theorem dX8_fee_10 : decode cX8_fee 10 = .ok (.aload_n 0, 1) := dk_42 (by decide +kernel)
theorem dX8_fee_11 : decode cX8_fee 11 = .ok (.ldc 60, 2) := dk_18 (by decide +kernel)
theorem dX8_fee_13 : decode cX8_fee 13 = .ok (.invokevirtual 61, 3) := dk_182 (by decide +kernel)
theorem dX8_fee_16 : decode cX8_fee 16 = .ok (.ireturn, 1) := dk_172 (by decide +kernel)
set_option maxRecDepth 100000 in
set_option maxHeartbeats 8000000 in
theorem x_X8_fee (l : Launch) (D : va_G) (y : wY) (ad : Nat → Nat) (i1 : Int32) (M : Mem) (K : Int32 → Mem → Prop) (h : wp_X8_fee i1 M K) : MI l D y ad yX8_fee (Cond.code yX8_fee cX8_fee 3 (some .int)) 7 M [.ref (ad 79), .int i1] K := by
  refine MI_of (by decide) (Nat.le_of_ble_eq_true rfl) ?_
  intro p e s m args below meth c X hr hlocks
  delta wp_X8_fee at h
  refine j_lv (lv1 := [(0, .ref (ad 79)), (1, .int i1)]) [0, 1] rfl ?_
  refine j_iload_n X 1 rfl rfl dX8_fee_0 ?_
  refine j_iconst X (v := 0) (by decide) dX8_fee_1 ?_
  refine j_bipush X (v := 60) (by decide) dX8_fee_2 ?_
  refine j_callSI X (nn := 3) (As := [.int i1, .int 0, .int 60]) (st := []) aw_134 (x_X8_in l D y ad i1 0 60 _ _ h) aw_133 aw_135 aw_5 (by decide +kernel) ⟨Nat.le_of_ble_eq_true rfl, Nat.le_of_ble_eq_true rfl⟩ rfl (Nat.le_of_ble_eq_true rfl) ⟨Nat.le_of_ble_eq_true rfl, Nat.le_of_ble_eq_true rfl⟩ dX8_fee_4 ?_
  intro r1 M1 h
  refine j_if_ne X 17 (by decide) dX8_fee_7 (fun q_2 => ?_) (fun q_2 => ?_)
  · replace h := h.1 q_2
    refine j_aload_n X 0 rfl rfl dX8_fee_17 ?_
    refine j_aload_n X 0 rfl rfl dX8_fee_18 ?_
    refine j_get X cl_79.1 (wE_8 _ cl_79.2) rfl awF8 0 (by decide) aw_92 rfl (v := .ref (ad 80)) rfl dX8_fee_19 ?_
    refine j_aload_n X 0 rfl rfl dX8_fee_22 ?_
    refine j_get X cl_79.1 (wE_8 _ cl_79.2) rfl awF8 2 (by decide) aw_94 rfl (v := .ref (ad 82)) rfl dX8_fee_23 ?_
    refine j_callVV X (nn := 2) (As := [.ref (ad 80), .ref (ad 82)]) (st := []) (ci := 8) cl_79.1 (wE_8 _ cl_79.2) rfl aw_553 aw_554 (x_X8_moveAll l D y ad 80 82 cl_80 cl_82 _ _ h) aw_552 aw_555 aw_5 (by decide +kernel) ⟨Nat.le_of_ble_eq_true rfl, Nat.le_of_ble_eq_true rfl⟩ rfl (Nat.le_of_ble_eq_true rfl) ⟨Nat.le_of_ble_eq_true rfl, Nat.le_of_ble_eq_true rfl⟩ dX8_fee_26 ?_
    intro M3 h
    refine j_aload_n X 0 rfl rfl dX8_fee_29 ?_
    refine j_iload_n X 1 rfl rfl dX8_fee_30 ?_
    refine j_callVV X (nn := 1) (As := [.int i1]) (st := []) (ci := 8) cl_79.1 (wE_8 _ cl_79.2) rfl aw_482 aw_483 (x_X8_passes l D y ad i1 _ _ h) aw_481 aw_484 aw_5 (by decide +kernel) ⟨Nat.le_of_ble_eq_true rfl, Nat.le_of_ble_eq_true rfl⟩ rfl (Nat.le_of_ble_eq_true rfl) ⟨Nat.le_of_ble_eq_true rfl, Nat.le_of_ble_eq_true rfl⟩ dX8_fee_31 ?_
    intro M4 h
    refine j_aload_n X 0 rfl rfl dX8_fee_34 ?_
    refine j_get X cl_79.1 (wE_8 _ cl_79.2) rfl awF8 0 (by decide) aw_92 rfl (v := .ref (ad 80)) rfl dX8_fee_35 ?_
    refine j_bipush X (v := 10) (by decide) dX8_fee_38 ?_
    refine j_iald X cl_80.1 cl_80.2 (by unfold vp_in; decide) dX8_fee_40 ?_
    refine j_eqi (v := M4 80 10) rfl ?_
    refine j_aload_n X 0 rfl rfl dX8_fee_41 ?_
    refine j_get X cl_79.1 (wE_8 _ cl_79.2) rfl awF8 2 (by decide) aw_94 rfl (v := .ref (ad 82)) rfl dX8_fee_42 ?_
    refine j_bipush X (v := 10) (by decide) dX8_fee_45 ?_
    refine j_iald X cl_82.1 cl_82.2 (by unfold vp_in; decide) dX8_fee_47 ?_
    refine j_eqi (v := M4 82 10) rfl ?_
    refine j_isub X dX8_fee_48 ?_
    refine j_istore_n X [(2, .int ((M4 80 10) - (M4 82 10))), (0, .ref (ad 79)), (1, .int i1)] rfl (by decide) rfl dX8_fee_49 ?_
    refine j_aload_n X 1 rfl rfl dX8_fee_50 ?_
    refine j_aload_n X 1 rfl rfl dX8_fee_51 ?_
    refine j_get X cl_79.1 (wE_8 _ cl_79.2) rfl awF8 2 (by decide) aw_94 rfl (v := .ref (ad 82)) rfl dX8_fee_52 ?_
    refine j_aload_n X 1 rfl rfl dX8_fee_55 ?_
    refine j_get X cl_79.1 (wE_8 _ cl_79.2) rfl awF8 0 (by decide) aw_92 rfl (v := .ref (ad 80)) rfl dX8_fee_56 ?_
    refine j_callVV X (nn := 2) (As := [.ref (ad 82), .ref (ad 80)]) (st := []) (ci := 8) cl_79.1 (wE_8 _ cl_79.2) rfl aw_553 aw_554 (x_X8_moveAll l D y ad 82 80 cl_82 cl_80 _ _ h) aw_552 aw_555 aw_5 (by decide +kernel) ⟨Nat.le_of_ble_eq_true rfl, Nat.le_of_ble_eq_true rfl⟩ rfl (Nat.le_of_ble_eq_true rfl) ⟨Nat.le_of_ble_eq_true rfl, Nat.le_of_ble_eq_true rfl⟩ dX8_fee_59 ?_
    intro M5 h
    refine j_iload_n X 0 rfl rfl dX8_fee_62 ?_
    exact j_iret X hr hlocks dX8_fee_63 h
  · replace h := h.2 q_2
    refine j_aload_n X 0 rfl rfl dX8_fee_10 ?_
    refine j_ldc X (v := (-1000000001)) aw_132 dX8_fee_11 ?_
    refine j_callVI X (nn := 1) (As := [.int (-1000000001)]) (st := []) (ci := 8) cl_79.1 (wE_8 _ cl_79.2) rfl aw_144 aw_145 (x_X8_errs l D y ad (-1000000001) _ _ h) aw_143 aw_146 aw_5 (by decide +kernel) ⟨Nat.le_of_ble_eq_true rfl, Nat.le_of_ble_eq_true rfl⟩ rfl (Nat.le_of_ble_eq_true rfl) ⟨Nat.le_of_ble_eq_true rfl, Nat.le_of_ble_eq_true rfl⟩ dX8_fee_13 ?_
    intro r6 M6 h
    exact j_iret X hr hlocks dX8_fee_16 h
