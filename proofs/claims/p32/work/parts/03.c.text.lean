theorem dX4_workedOut_0 : decode cX4_workedOut 0 = .ok (.iconst 0, 1) := by decide +kernel
theorem dX4_workedOut_1 : decode cX4_workedOut 1 = .ok (.istore 4, 2) := by decide +kernel
theorem dX4_workedOut_3 : decode cX4_workedOut 3 = .ok (.iload 4, 2) := by decide +kernel
theorem dX4_workedOut_5 : decode cX4_workedOut 5 = .ok (.aload_n 0, 1) := by decide +kernel
theorem dX4_workedOut_6 : decode cX4_workedOut 6 = .ok (.getfield 28, 3) := by decide +kernel
theorem dX4_workedOut_9 : decode cX4_workedOut 9 = .ok (.if_icmp .ge 120, 3) := by decide +kernel
theorem dX4_workedOut_129 : decode cX4_workedOut 129 = .ok (.aload_n 0, 1) := by decide +kernel
theorem dX4_workedOut_130 : decode cX4_workedOut 130 = .ok (.getfield 21, 3) := by decide +kernel
theorem dX4_workedOut_133 : decode cX4_workedOut 133 = .ok (.aload_n 0, 1) := by decide +kernel
theorem dX4_workedOut_134 : decode cX4_workedOut 134 = .ok (.getfield 28, 3) := by decide +kernel
theorem dX4_workedOut_137 : decode cX4_workedOut 137 = .ok (.iconst 1, 1) := by decide +kernel
theorem dX4_workedOut_138 : decode cX4_workedOut 138 = .ok (.isub, 1) := by decide +kernel
theorem dX4_workedOut_139 : decode cX4_workedOut 139 = .ok (.iaload, 1) := by decide +kernel
theorem dX4_workedOut_140 : decode cX4_workedOut 140 = .ok (.ireturn, 1) := by decide +kernel
theorem dX4_workedOut_12 : decode cX4_workedOut 12 = .ok (.aload_n 0, 1) := by decide +kernel
theorem dX4_workedOut_13 : decode cX4_workedOut 13 = .ok (.getfield 15, 3) := by decide +kernel
theorem dX4_workedOut_16 : decode cX4_workedOut 16 = .ok (.iload 4, 2) := by decide +kernel
theorem dX4_workedOut_18 : decode cX4_workedOut 18 = .ok (.iaload, 1) := by decide +kernel
theorem dX4_workedOut_19 : decode cX4_workedOut 19 = .ok (.istore 5, 2) := by decide +kernel
theorem dX4_workedOut_21 : decode cX4_workedOut 21 = .ok (.aload_n 0, 1) := by decide +kernel
theorem dX4_workedOut_22 : decode cX4_workedOut 22 = .ok (.getfield 9, 3) := by decide +kernel
theorem dX4_workedOut_25 : decode cX4_workedOut 25 = .ok (.iload 4, 2) := by decide +kernel
theorem dX4_workedOut_27 : decode cX4_workedOut 27 = .ok (.iaload, 1) := by decide +kernel
theorem dX4_workedOut_28 : decode cX4_workedOut 28 = .ok (.bipush 48, 2) := by decide +kernel
theorem dX4_workedOut_30 : decode cX4_workedOut 30 = .ok (.if_icmp .ne 15, 3) := by decide +kernel
theorem dX4_workedOut_45 : decode cX4_workedOut 45 = .ok (.aload_n 0, 1) := by decide +kernel
theorem dX4_workedOut_46 : decode cX4_workedOut 46 = .ok (.getfield 9, 3) := by decide +kernel
theorem dX4_workedOut_49 : decode cX4_workedOut 49 = .ok (.iload 4, 2) := by decide +kernel
theorem dX4_workedOut_51 : decode cX4_workedOut 51 = .ok (.iaload, 1) := by decide +kernel
theorem dX4_workedOut_52 : decode cX4_workedOut 52 = .ok (.bipush 110, 2) := by decide +kernel
theorem dX4_workedOut_54 : decode cX4_workedOut 54 = .ok (.if_icmp .ne 33, 3) := by decide +kernel
theorem dX4_workedOut_87 : decode cX4_workedOut 87 = .ok (.aload_n 0, 1) := by decide +kernel
theorem dX4_workedOut_88 : decode cX4_workedOut 88 = .ok (.getfield 21, 3) := by decide +kernel
theorem dX4_workedOut_91 : decode cX4_workedOut 91 = .ok (.iload 4, 2) := by decide +kernel
theorem dX4_workedOut_93 : decode cX4_workedOut 93 = .ok (.aload_n 0, 1) := by decide +kernel
theorem dX4_workedOut_94 : decode cX4_workedOut 94 = .ok (.getfield 9, 3) := by decide +kernel
theorem dX4_workedOut_97 : decode cX4_workedOut 97 = .ok (.iload 4, 2) := by decide +kernel
theorem dX4_workedOut_99 : decode cX4_workedOut 99 = .ok (.iaload, 1) := by decide +kernel
theorem dX4_workedOut_100 : decode cX4_workedOut 100 = .ok (.aload_n 0, 1) := by decide +kernel
theorem dX4_workedOut_101 : decode cX4_workedOut 101 = .ok (.getfield 21, 3) := by decide +kernel
theorem dX4_workedOut_104 : decode cX4_workedOut 104 = .ok (.iload 5, 2) := by decide +kernel
theorem dX4_workedOut_106 : decode cX4_workedOut 106 = .ok (.iaload, 1) := by decide +kernel
theorem dX4_workedOut_107 : decode cX4_workedOut 107 = .ok (.aload_n 0, 1) := by decide +kernel
theorem dX4_workedOut_108 : decode cX4_workedOut 108 = .ok (.getfield 21, 3) := by decide +kernel
theorem dX4_workedOut_111 : decode cX4_workedOut 111 = .ok (.aload_n 0, 1) := by decide +kernel
theorem dX4_workedOut_112 : decode cX4_workedOut 112 = .ok (.getfield 18, 3) := by decide +kernel
theorem dX4_workedOut_115 : decode cX4_workedOut 115 = .ok (.iload 4, 2) := by decide +kernel
theorem dX4_workedOut_117 : decode cX4_workedOut 117 = .ok (.iaload, 1) := by decide +kernel
theorem dX4_workedOut_118 : decode cX4_workedOut 118 = .ok (.iaload, 1) := by decide +kernel
theorem dX4_workedOut_119 : decode cX4_workedOut 119 = .ok (.invokestatic 50, 3) := by decide +kernel
theorem dX4_workedOut_122 : decode cX4_workedOut 122 = .ok (.iastore, 1) := by decide +kernel
theorem dX4_workedOut_123 : decode cX4_workedOut 123 = .ok (.iinc 4 1, 3) := by decide +kernel
theorem dX4_workedOut_126 : decode cX4_workedOut 126 = .ok (.goto (-123), 3) := by decide +kernel
theorem dX4_workedOut_57 : decode cX4_workedOut 57 = .ok (.aload_n 0, 1) := by decide +kernel
theorem dX4_workedOut_58 : decode cX4_workedOut 58 = .ok (.getfield 21, 3) := by decide +kernel
theorem dX4_workedOut_61 : decode cX4_workedOut 61 = .ok (.iload 4, 2) := by decide +kernel
theorem dX4_workedOut_63 : decode cX4_workedOut 63 = .ok (.iload 5, 2) := by decide +kernel
theorem dX4_workedOut_65 : decode cX4_workedOut 65 = .ok (.ifCond .ne 7, 3) := by decide +kernel
theorem dX4_workedOut_72 : decode cX4_workedOut 72 = .ok (.iload 5, 2) := by decide +kernel
theorem dX4_workedOut_74 : decode cX4_workedOut 74 = .ok (.iconst 1, 1) := by decide +kernel
theorem dX4_workedOut_75 : decode cX4_workedOut 75 = .ok (.if_icmp .ne 7, 3) := by decide +kernel
theorem dX4_workedOut_82 : decode cX4_workedOut 82 = .ok (.iload_n 3, 1) := by decide +kernel
theorem dX4_workedOut_83 : decode cX4_workedOut 83 = .ok (.iastore, 1) := by decide +kernel
theorem dX4_workedOut_84 : decode cX4_workedOut 84 = .ok (.goto 39, 3) := by decide +kernel
theorem dX4_workedOut_78 : decode cX4_workedOut 78 = .ok (.iload_n 2, 1) := by decide +kernel
theorem dX4_workedOut_79 : decode cX4_workedOut 79 = .ok (.goto 4, 3) := by decide +kernel
theorem dX4_workedOut_68 : decode cX4_workedOut 68 = .ok (.iload_n 1, 1) := by decide +kernel
theorem dX4_workedOut_69 : decode cX4_workedOut 69 = .ok (.goto 14, 3) := by decide +kernel
theorem dX4_workedOut_33 : decode cX4_workedOut 33 = .ok (.aload_n 0, 1) := by decide +kernel
theorem dX4_workedOut_34 : decode cX4_workedOut 34 = .ok (.getfield 21, 3) := by decide +kernel
theorem dX4_workedOut_37 : decode cX4_workedOut 37 = .ok (.iload 4, 2) := by decide +kernel
theorem dX4_workedOut_39 : decode cX4_workedOut 39 = .ok (.iload 5, 2) := by decide +kernel
theorem dX4_workedOut_41 : decode cX4_workedOut 41 = .ok (.iastore, 1) := by decide +kernel
theorem dX4_workedOut_42 : decode cX4_workedOut 42 = .ok (.goto 81, 3) := by decide +kernel
theorem dX4_gives_0 : decode cX4_gives 0 = .ok (.aload_n 0, 1) := by decide +kernel
theorem dX4_gives_1 : decode cX4_gives 1 = .ok (.getfield 28, 3) := by decide +kernel
theorem dX4_gives_4 : decode cX4_gives 4 = .ok (.ifCond .le 13, 3) := by decide +kernel
theorem dX4_gives_17 : decode cX4_gives 17 = .ok (.aload_n 0, 1) := by decide +kernel
theorem dX4_gives_18 : decode cX4_gives 18 = .ok (.getfield 24, 3) := by decide +kernel
theorem dX4_gives_21 : decode cX4_gives 21 = .ok (.ifCond .ne 8, 3) := by decide +kernel
theorem dX4_gives_29 : decode cX4_gives 29 = .ok (.bipush 9, 2) := by decide +kernel
theorem dX4_gives_31 : decode cX4_gives 31 = .ok (.iload_n 1, 1) := by decide +kernel
theorem dX4_gives_32 : decode cX4_gives 32 = .ok (.bipush 11, 2) := by decide +kernel
theorem dX4_gives_34 : decode cX4_gives 34 = .ok (.idiv, 1) := by decide +kernel
theorem dX4_gives_35 : decode cX4_gives 35 = .ok (.isub, 1) := by decide +kernel
theorem dX4_gives_36 : decode cX4_gives 36 = .ok (.istore 4, 2) := by decide +kernel
theorem dX4_gives_38 : decode cX4_gives 38 = .ok (.iconst 0, 1) := by decide +kernel
theorem dX4_gives_39 : decode cX4_gives 39 = .ok (.bipush 99, 2) := by decide +kernel
theorem dX4_gives_41 : decode cX4_gives 41 = .ok (.iload 4, 2) := by decide +kernel
theorem dX4_gives_43 : decode cX4_gives 43 = .ok (.invokestatic 41, 3) := by decide +kernel
theorem dX4_gives_46 : decode cX4_gives 46 = .ok (.invokestatic 47, 3) := by decide +kernel
theorem dX4_gives_49 : decode cX4_gives 49 = .ok (.ireturn, 1) := by decide +kernel
theorem dX4_gives_24 : decode cX4_gives 24 = .ok (.bipush 20, 2) := by decide +kernel
theorem dX4_gives_26 : decode cX4_gives 26 = .ok (.goto 10, 3) := by decide +kernel
theorem dX4_gives_7 : decode cX4_gives 7 = .ok (.aload_n 0, 1) := by decide +kernel
theorem dX4_gives_8 : decode cX4_gives 8 = .ok (.iload_n 1, 1) := by decide +kernel
theorem dX4_gives_9 : decode cX4_gives 9 = .ok (.iload_n 2, 1) := by decide +kernel
theorem dX4_gives_10 : decode cX4_gives 10 = .ok (.iload_n 3, 1) := by decide +kernel
theorem dX4_gives_11 : decode cX4_gives 11 = .ok (.invokevirtual 37, 3) := by decide +kernel
theorem dX4_gives_14 : decode cX4_gives 14 = .ok (.goto 22, 3) := by decide +kernel
def In50 (x : Int32) : Prop := ∃ k : Nat, k < 50 ∧ x = nI k
theorem in50_vp {x : Int32} (h : In50 x) : vp_in x 50 := by obtain ⟨k, hk, rfl⟩ := h; exact vp_in_nI hk (by decide)
/-- a text of z nodes, at cell t: a joined one's parts are places of the row -/
def TextOK (M : Mem) (t z : Nat) : Prop := M t 5 = nI z ∧ z ≤ 50 ∧ ∀ j, j < z → M (t + 1) j = 48 ∨ M (t + 1) j = 110 ∨ (In50 (M (t + 2) j) ∧ In50 (M (t + 3) j))
theorem textLR {M M1 : Mem} {t z i : Nat} (hT : TextOK M t z) (hs : sm (fun b _ => b == t + 4) M M1) (hi : i < z) (h1 : ¬ M1 (t + 1) i = 48) (h2 : ¬ M1 (t + 1) i = 110) : In50 (M1 (t + 2) i) ∧ In50 (M1 (t + 3) i) := by
  rw [hs (t + 1) i (by simp)] at h1 h2
  rw [hs (t + 2) i (by simp), hs (t + 3) i (by simp)]
  rcases hT.2.2 i hi with h | h | h
  · exact absurd h h1
  · exact absurd h h2
  · exact h
set_option maxRecDepth 100000 in
set_option maxHeartbeats 4000000 in
theorem g_workedOut_2 (l : Launch) (D : va_G) (y : wY) (ad : Nat → Nat) (M : Mem) (z : Nat) (hz0 : 0 < z) (hT : TextOK M 2 z) (a b0 c0 : Int32) : MI l D y ad yX4_workedOut (Cond.code yX4_workedOut cX4_workedOut 6 (some .int)) 1 M [.ref (ad 2), .int a, .int b0, .int c0] (fun _ M' => sm (fun b _ => b == 6) M M') := by
  refine MI_of (by decide) (Nat.le_of_ble_eq_true rfl) ?_
  intro p e s m args below meth c X hr hlocks
  refine j_lv (lv1 := [(0, .ref (ad 2)), (1, .int a), (2, .int b0), (3, .int c0)]) [0, 1, 2, 3] rfl ?_
  have hz50 := hT.2.1
  refine j_iconst X (v := 0) (by decide) dX4_workedOut_0 ?_
  refine j_istore X [(4, .int 0), (0, .ref (ad 2)), (1, .int a), (2, .int b0), (3, .int c0)] (by decide) rfl dX4_workedOut_1 ?_
  have loop1 : ∀ (n_1 i_1 : Nat) (M1 : Mem), i_1 ≤ z → z - i_1 < n_1 → sm (fun b _ => b == 6) M M1 → J p l e (rmN 1) s m args below meth c 0 0 (QI (fun _ M' => sm (fun b _ => b == 6) M M') D y ad M s args below) D y ad (va_A (PL y ad M) s.heap.size) 6 M1 3 [(4, .int (nI i_1)), (0, .ref (ad 2)), (1, .int a), (2, .int b0), (3, .int c0)] [] := by
    intro n_1
    induction n_1 with
    | zero => intro i_1 M1 h1 h2; exact absurd h2 (by omega)
    | succ n_1 ih1 =>
      intro i_1 M1 h1i_1 h2i_1 hs1
      refine j_iload X 0 rfl dX4_workedOut_3 ?_
      refine j_aload_n X 1 rfl rfl dX4_workedOut_5 ?_
      refine j_get X (by decide) (wE_4 _ rfl) rfl awF4 5 (by decide) aw_73 rfl (v := .int (M1 2 5)) rfl dX4_workedOut_6 ?_
      refine j_eqi (v := (nI z)) ((hs1 2 5 rfl).trans hT.1) ?_
      refine j_icmp_ge X 129 (by decide) dX4_workedOut_9 (fun c_2 => ?_) (fun c_2 => ?_)
      · have c_2 := (nI_leI (by omega) (by omega)).mp (show nI (z) ≤ nI i_1 from c_2)
        obtain ⟨z1, rfl⟩ : ∃ z1, z = z1 + 1 := ⟨z - 1, by omega⟩
        refine j_aload_n X 1 rfl rfl dX4_workedOut_129 ?_
        refine j_get X (by decide) (wE_4 _ rfl) rfl awF4 3 (by decide) aw_55 rfl (v := .ref (ad 6)) rfl dX4_workedOut_130 ?_
        refine j_aload_n X 1 rfl rfl dX4_workedOut_133 ?_
        refine j_get X (by decide) (wE_4 _ rfl) rfl awF4 5 (by decide) aw_73 rfl (v := .int (M1 2 5)) rfl dX4_workedOut_134 ?_
        refine j_eqi (v := (nI (z1 + 1))) ((hs1 2 5 rfl).trans hT.1) ?_
        refine j_iconst X (v := 1) (by decide) dX4_workedOut_137 ?_
        refine j_isub X dX4_workedOut_138 ?_
        refine j_eqi (v := nI z1) (nI_pred z1) ?_
        refine j_iald X (by decide) rfl (show vp_in (nI z1) 50 from vp_in_nI (by omega) (by decide)) dX4_workedOut_139 ?_
        refine j_eqi (v := M1 6 z1) (by rw [nI_clamp (by omega)]) ?_
        exact j_iret X hr hlocks dX4_workedOut_140 (sm_tr sm_rf (sm_w hs1 (by intro b k hb; first | rfl | exact hb | (simp only [Bool.or_eq_false_iff, Bool.and_eq_false_iff, beq_eq_false_iff_ne, ne_eq, decide_eq_false_iff_not] at hb ⊢; omega))))
      · have c_2 : i_1 < z := by
          rcases Nat.lt_or_ge i_1 (z) with g | g
          · exact g
          · exact absurd (show nI (z) ≤ nI i_1 from nI_le g (by omega)) c_2
        refine j_aload_n X 1 rfl rfl dX4_workedOut_12 ?_
        refine j_get X (by decide) (wE_4 _ rfl) rfl awF4 1 (by decide) aw_53 rfl (v := .ref (ad 4)) rfl dX4_workedOut_13 ?_
        refine j_iload X 0 rfl dX4_workedOut_16 ?_
        refine j_iald X (by decide) rfl (show vp_in (nI i_1) 50 from vp_in_nI (by omega) (by decide)) dX4_workedOut_18 ?_
        refine j_eqi (v := M1 4 i_1) (by rw [nI_clamp (by omega)]) ?_
        refine j_istore X [(5, .int (M1 4 i_1)), (4, .int (nI i_1)), (0, .ref (ad 2)), (1, .int a), (2, .int b0), (3, .int c0)] (by decide) rfl dX4_workedOut_19 ?_
        refine j_aload_n X 2 rfl rfl dX4_workedOut_21 ?_
        refine j_get X (by decide) (wE_4 _ rfl) rfl awF4 0 (by decide) aw_52 rfl (v := .ref (ad 3)) rfl dX4_workedOut_22 ?_
        refine j_iload X 1 rfl dX4_workedOut_25 ?_
        refine j_iald X (by decide) rfl (show vp_in (nI i_1) 50 from vp_in_nI (by omega) (by decide)) dX4_workedOut_27 ?_
        refine j_eqi (v := M1 3 i_1) (by rw [nI_clamp (by omega)]) ?_
        refine j_bipush X (v := 48) (by decide) dX4_workedOut_28 ?_
        refine j_icmp_ne X 45 (by decide) dX4_workedOut_30 (fun c_3 => ?_) (fun c_3 => ?_)
        · have qc_3 := ti_ne (n := 48) (by decide) c_3
          refine j_aload_n X 2 rfl rfl dX4_workedOut_45 ?_
          refine j_get X (by decide) (wE_4 _ rfl) rfl awF4 0 (by decide) aw_52 rfl (v := .ref (ad 3)) rfl dX4_workedOut_46 ?_
          refine j_iload X 1 rfl dX4_workedOut_49 ?_
          refine j_iald X (by decide) rfl (show vp_in (nI i_1) 50 from vp_in_nI (by omega) (by decide)) dX4_workedOut_51 ?_
          refine j_eqi (v := M1 3 i_1) (by rw [nI_clamp (by omega)]) ?_
          refine j_bipush X (v := 110) (by decide) dX4_workedOut_52 ?_
          refine j_icmp_ne X 87 (by decide) dX4_workedOut_54 (fun c_4 => ?_) (fun c_4 => ?_)
          · have qc_4 := ti_ne (n := 110) (by decide) c_4
            refine j_aload_n X 2 rfl rfl dX4_workedOut_87 ?_
            refine j_get X (by decide) (wE_4 _ rfl) rfl awF4 3 (by decide) aw_55 rfl (v := .ref (ad 6)) rfl dX4_workedOut_88 ?_
            refine j_iload X 1 rfl dX4_workedOut_91 ?_
            refine j_aload_n X 2 rfl rfl dX4_workedOut_93 ?_
            refine j_get X (by decide) (wE_4 _ rfl) rfl awF4 0 (by decide) aw_52 rfl (v := .ref (ad 3)) rfl dX4_workedOut_94 ?_
            refine j_iload X 1 rfl dX4_workedOut_97 ?_
            refine j_iald X (by decide) rfl (show vp_in (nI i_1) 50 from vp_in_nI (by omega) (by decide)) dX4_workedOut_99 ?_
            refine j_eqi (v := M1 3 i_1) (by rw [nI_clamp (by omega)]) ?_
            refine j_aload_n X 2 rfl rfl dX4_workedOut_100 ?_
            refine j_get X (by decide) (wE_4 _ rfl) rfl awF4 3 (by decide) aw_55 rfl (v := .ref (ad 6)) rfl dX4_workedOut_101 ?_
            refine j_iload X 0 rfl dX4_workedOut_104 ?_
            refine j_iald X (by decide) rfl (in50_vp (textLR (t := 2) hT hs1 (by omega) c_3 c_4).1) dX4_workedOut_106 ?_
            refine j_eqi (v := M1 6 ((M1 4 i_1).toNatClampNeg)) rfl ?_
            refine j_aload_n X 2 rfl rfl dX4_workedOut_107 ?_
            refine j_get X (by decide) (wE_4 _ rfl) rfl awF4 3 (by decide) aw_55 rfl (v := .ref (ad 6)) rfl dX4_workedOut_108 ?_
            refine j_aload_n X 2 rfl rfl dX4_workedOut_111 ?_
            refine j_get X (by decide) (wE_4 _ rfl) rfl awF4 2 (by decide) aw_54 rfl (v := .ref (ad 5)) rfl dX4_workedOut_112 ?_
            refine j_iload X 1 rfl dX4_workedOut_115 ?_
            refine j_iald X (by decide) rfl (show vp_in (nI i_1) 50 from vp_in_nI (by omega) (by decide)) dX4_workedOut_117 ?_
            refine j_eqi (v := M1 5 i_1) (by rw [nI_clamp (by omega)]) ?_
            refine j_iald X (by decide) rfl (in50_vp (textLR (t := 2) hT hs1 (by omega) c_3 c_4).2) dX4_workedOut_118 ?_
            refine j_eqi (v := M1 6 ((M1 5 i_1).toNatClampNeg)) rfl ?_
            refine j_callSI X (nn := 3) (As := [.int (M1 3 i_1), .int (M1 6 ((M1 4 i_1).toNatClampNeg)), .int (M1 6 ((M1 5 i_1).toNatClampNeg))]) (st := [.int (nI i_1), .ref (ad 6)]) aw_213 (g_joined l D y ad M1 (M1 3 i_1) (M1 6 ((M1 4 i_1).toNatClampNeg)) (M1 6 ((M1 5 i_1).toNatClampNeg))) aw_212 aw_214 aw_41 (by decide +kernel) ⟨by decide, by decide⟩ rfl (Nat.le_of_ble_eq_true rfl) ⟨by decide, by decide⟩ dX4_workedOut_119 ?_
            rintro r_5 M1_ rfl
            refine j_iast X (by decide) rfl (show vp_in (nI i_1) 50 from vp_in_nI (by omega) (by decide)) dX4_workedOut_122 ?_
            refine j_eqM (M1 := (up M1 6 i_1 r_5)) (by rw [nI_clamp (by omega)]) ?_
            refine j_iinc X (v := (nI (i_1 + 1))) 1 [(4, .int (nI (i_1 + 1))), (5, .int (M1 4 i_1)), (0, .ref (ad 2)), (1, .int a), (2, .int b0), (3, .int c0)] rfl (show nI i_1 + Int32.ofInt 1 = _ from nI_1 i_1) (by decide) rfl dX4_workedOut_123 ?_
            refine j_goto X 3 (by decide) dX4_workedOut_126 ?_
            refine j_lv (lv1 := [(4, .int (nI (i_1 + 1))), (0, .ref (ad 2)), (1, .int a), (2, .int b0), (3, .int c0)]) [0, 2, 3, 4, 5] rfl ?_
            exact ih1 (i_1 + 1) _ (by omega) (by omega) (sm_up hs1 (by first | rfl | (simp; done) | (simp; omega) | (simp only [Bool.and_eq_true, Bool.or_eq_true, decide_eq_true_eq, beq_iff_eq]; omega)))
          · have qc_4 := ti_eq (n := 110) (by decide) c_4
            refine j_aload_n X 2 rfl rfl dX4_workedOut_57 ?_
            refine j_get X (by decide) (wE_4 _ rfl) rfl awF4 3 (by decide) aw_55 rfl (v := .ref (ad 6)) rfl dX4_workedOut_58 ?_
            refine j_iload X 1 rfl dX4_workedOut_61 ?_
            refine j_iload X 0 rfl dX4_workedOut_63 ?_
            refine j_if_ne X 72 (by decide) dX4_workedOut_65 (fun c_6 => ?_) (fun c_6 => ?_)
            · have qc_6 := ti_ne (n := 0) (by decide) c_6
              refine j_iload X 0 rfl dX4_workedOut_72 ?_
              refine j_iconst X (v := 1) (by decide) dX4_workedOut_74 ?_
              refine j_icmp_ne X 82 (by decide) dX4_workedOut_75 (fun c_7 => ?_) (fun c_7 => ?_)
              · have qc_7 := ti_ne (n := 1) (by decide) c_7
                refine j_iload_n X 5 rfl rfl dX4_workedOut_82 ?_
                refine j_iast X (by decide) rfl (show vp_in (nI i_1) 50 from vp_in_nI (by omega) (by decide)) dX4_workedOut_83 ?_
                refine j_eqM (M1 := (up M1 6 i_1 c0)) (by rw [nI_clamp (by omega)]) ?_
                refine j_goto X 123 (by decide) dX4_workedOut_84 ?_
                refine j_iinc X (v := (nI (i_1 + 1))) 1 [(4, .int (nI (i_1 + 1))), (5, .int (M1 4 i_1)), (0, .ref (ad 2)), (1, .int a), (2, .int b0), (3, .int c0)] rfl (show nI i_1 + Int32.ofInt 1 = _ from nI_1 i_1) (by decide) rfl dX4_workedOut_123 ?_
                refine j_goto X 3 (by decide) dX4_workedOut_126 ?_
                refine j_lv (lv1 := [(4, .int (nI (i_1 + 1))), (0, .ref (ad 2)), (1, .int a), (2, .int b0), (3, .int c0)]) [0, 2, 3, 4, 5] rfl ?_
                exact ih1 (i_1 + 1) _ (by omega) (by omega) (sm_up hs1 (by first | rfl | (simp; done) | (simp; omega) | (simp only [Bool.and_eq_true, Bool.or_eq_true, decide_eq_true_eq, beq_iff_eq]; omega)))
              · have qc_7 := ti_eq (n := 1) (by decide) c_7
                refine j_iload_n X 4 rfl rfl dX4_workedOut_78 ?_
                refine j_goto X 83 (by decide) dX4_workedOut_79 ?_
                refine j_iast X (by decide) rfl (show vp_in (nI i_1) 50 from vp_in_nI (by omega) (by decide)) dX4_workedOut_83 ?_
                refine j_eqM (M1 := (up M1 6 i_1 b0)) (by rw [nI_clamp (by omega)]) ?_
                refine j_goto X 123 (by decide) dX4_workedOut_84 ?_
                refine j_iinc X (v := (nI (i_1 + 1))) 1 [(4, .int (nI (i_1 + 1))), (5, .int (M1 4 i_1)), (0, .ref (ad 2)), (1, .int a), (2, .int b0), (3, .int c0)] rfl (show nI i_1 + Int32.ofInt 1 = _ from nI_1 i_1) (by decide) rfl dX4_workedOut_123 ?_
                refine j_goto X 3 (by decide) dX4_workedOut_126 ?_
                refine j_lv (lv1 := [(4, .int (nI (i_1 + 1))), (0, .ref (ad 2)), (1, .int a), (2, .int b0), (3, .int c0)]) [0, 2, 3, 4, 5] rfl ?_
                exact ih1 (i_1 + 1) _ (by omega) (by omega) (sm_up hs1 (by first | rfl | (simp; done) | (simp; omega) | (simp only [Bool.and_eq_true, Bool.or_eq_true, decide_eq_true_eq, beq_iff_eq]; omega)))
            · have qc_6 := ti_eq (n := 0) (by decide) c_6
              refine j_iload_n X 3 rfl rfl dX4_workedOut_68 ?_
              refine j_goto X 83 (by decide) dX4_workedOut_69 ?_
              refine j_iast X (by decide) rfl (show vp_in (nI i_1) 50 from vp_in_nI (by omega) (by decide)) dX4_workedOut_83 ?_
              refine j_eqM (M1 := (up M1 6 i_1 a)) (by rw [nI_clamp (by omega)]) ?_
              refine j_goto X 123 (by decide) dX4_workedOut_84 ?_
              refine j_iinc X (v := (nI (i_1 + 1))) 1 [(4, .int (nI (i_1 + 1))), (5, .int (M1 4 i_1)), (0, .ref (ad 2)), (1, .int a), (2, .int b0), (3, .int c0)] rfl (show nI i_1 + Int32.ofInt 1 = _ from nI_1 i_1) (by decide) rfl dX4_workedOut_123 ?_
              refine j_goto X 3 (by decide) dX4_workedOut_126 ?_
              refine j_lv (lv1 := [(4, .int (nI (i_1 + 1))), (0, .ref (ad 2)), (1, .int a), (2, .int b0), (3, .int c0)]) [0, 2, 3, 4, 5] rfl ?_
              exact ih1 (i_1 + 1) _ (by omega) (by omega) (sm_up hs1 (by first | rfl | (simp; done) | (simp; omega) | (simp only [Bool.and_eq_true, Bool.or_eq_true, decide_eq_true_eq, beq_iff_eq]; omega)))
        · have qc_3 := ti_eq (n := 48) (by decide) c_3
          refine j_aload_n X 2 rfl rfl dX4_workedOut_33 ?_
          refine j_get X (by decide) (wE_4 _ rfl) rfl awF4 3 (by decide) aw_55 rfl (v := .ref (ad 6)) rfl dX4_workedOut_34 ?_
          refine j_iload X 1 rfl dX4_workedOut_37 ?_
          refine j_iload X 0 rfl dX4_workedOut_39 ?_
          refine j_iast X (by decide) rfl (show vp_in (nI i_1) 50 from vp_in_nI (by omega) (by decide)) dX4_workedOut_41 ?_
          refine j_eqM (M1 := (up M1 6 i_1 (M1 4 i_1))) (by rw [nI_clamp (by omega)]) ?_
          refine j_goto X 123 (by decide) dX4_workedOut_42 ?_
          refine j_iinc X (v := (nI (i_1 + 1))) 1 [(4, .int (nI (i_1 + 1))), (5, .int (M1 4 i_1)), (0, .ref (ad 2)), (1, .int a), (2, .int b0), (3, .int c0)] rfl (show nI i_1 + Int32.ofInt 1 = _ from nI_1 i_1) (by decide) rfl dX4_workedOut_123 ?_
          refine j_goto X 3 (by decide) dX4_workedOut_126 ?_
          refine j_lv (lv1 := [(4, .int (nI (i_1 + 1))), (0, .ref (ad 2)), (1, .int a), (2, .int b0), (3, .int c0)]) [0, 2, 3, 4, 5] rfl ?_
          exact ih1 (i_1 + 1) _ (by omega) (by omega) (sm_up hs1 (by first | rfl | (simp; done) | (simp; omega) | (simp only [Bool.and_eq_true, Bool.or_eq_true, decide_eq_true_eq, beq_iff_eq]; omega)))
  refine j_lv (lv1 := [(4, .int (nI 0)), (0, .ref (ad 2)), (1, .int a), (2, .int b0), (3, .int c0)]) [0, 1, 2, 3, 4] rfl ?_
  exact loop1 (z + 1) 0 _ (by omega) (by omega) sm_rf
set_option maxRecDepth 100000 in
set_option maxHeartbeats 4000000 in
theorem g_workedOut_7 (l : Launch) (D : va_G) (y : wY) (ad : Nat → Nat) (M : Mem) (z : Nat) (hz0 : 0 < z) (hT : TextOK M 7 z) (a b0 c0 : Int32) : MI l D y ad yX4_workedOut (Cond.code yX4_workedOut cX4_workedOut 6 (some .int)) 1 M [.ref (ad 7), .int a, .int b0, .int c0] (fun _ M' => sm (fun b _ => b == 11) M M') := by
  refine MI_of (by decide) (Nat.le_of_ble_eq_true rfl) ?_
  intro p e s m args below meth c X hr hlocks
  refine j_lv (lv1 := [(0, .ref (ad 7)), (1, .int a), (2, .int b0), (3, .int c0)]) [0, 1, 2, 3] rfl ?_
  have hz50 := hT.2.1
  refine j_iconst X (v := 0) (by decide) dX4_workedOut_0 ?_
  refine j_istore X [(4, .int 0), (0, .ref (ad 7)), (1, .int a), (2, .int b0), (3, .int c0)] (by decide) rfl dX4_workedOut_1 ?_
  have loop1 : ∀ (n_1 i_1 : Nat) (M1 : Mem), i_1 ≤ z → z - i_1 < n_1 → sm (fun b _ => b == 11) M M1 → J p l e (rmN 1) s m args below meth c 0 0 (QI (fun _ M' => sm (fun b _ => b == 11) M M') D y ad M s args below) D y ad (va_A (PL y ad M) s.heap.size) 6 M1 3 [(4, .int (nI i_1)), (0, .ref (ad 7)), (1, .int a), (2, .int b0), (3, .int c0)] [] := by
    intro n_1
    induction n_1 with
    | zero => intro i_1 M1 h1 h2; exact absurd h2 (by omega)
    | succ n_1 ih1 =>
      intro i_1 M1 h1i_1 h2i_1 hs1
      refine j_iload X 0 rfl dX4_workedOut_3 ?_
      refine j_aload_n X 1 rfl rfl dX4_workedOut_5 ?_
      refine j_get X (by decide) (wE_4 _ rfl) rfl awF4 5 (by decide) aw_73 rfl (v := .int (M1 7 5)) rfl dX4_workedOut_6 ?_
      refine j_eqi (v := (nI z)) ((hs1 7 5 rfl).trans hT.1) ?_
      refine j_icmp_ge X 129 (by decide) dX4_workedOut_9 (fun c_2 => ?_) (fun c_2 => ?_)
      · have c_2 := (nI_leI (by omega) (by omega)).mp (show nI (z) ≤ nI i_1 from c_2)
        obtain ⟨z1, rfl⟩ : ∃ z1, z = z1 + 1 := ⟨z - 1, by omega⟩
        refine j_aload_n X 1 rfl rfl dX4_workedOut_129 ?_
        refine j_get X (by decide) (wE_4 _ rfl) rfl awF4 3 (by decide) aw_55 rfl (v := .ref (ad 11)) rfl dX4_workedOut_130 ?_
        refine j_aload_n X 1 rfl rfl dX4_workedOut_133 ?_
        refine j_get X (by decide) (wE_4 _ rfl) rfl awF4 5 (by decide) aw_73 rfl (v := .int (M1 7 5)) rfl dX4_workedOut_134 ?_
        refine j_eqi (v := (nI (z1 + 1))) ((hs1 7 5 rfl).trans hT.1) ?_
        refine j_iconst X (v := 1) (by decide) dX4_workedOut_137 ?_
        refine j_isub X dX4_workedOut_138 ?_
        refine j_eqi (v := nI z1) (nI_pred z1) ?_
        refine j_iald X (by decide) rfl (show vp_in (nI z1) 50 from vp_in_nI (by omega) (by decide)) dX4_workedOut_139 ?_
        refine j_eqi (v := M1 11 z1) (by rw [nI_clamp (by omega)]) ?_
        exact j_iret X hr hlocks dX4_workedOut_140 (sm_tr sm_rf (sm_w hs1 (by intro b k hb; first | rfl | exact hb | (simp only [Bool.or_eq_false_iff, Bool.and_eq_false_iff, beq_eq_false_iff_ne, ne_eq, decide_eq_false_iff_not] at hb ⊢; omega))))
      · have c_2 : i_1 < z := by
          rcases Nat.lt_or_ge i_1 (z) with g | g
          · exact g
          · exact absurd (show nI (z) ≤ nI i_1 from nI_le g (by omega)) c_2
        refine j_aload_n X 1 rfl rfl dX4_workedOut_12 ?_
        refine j_get X (by decide) (wE_4 _ rfl) rfl awF4 1 (by decide) aw_53 rfl (v := .ref (ad 9)) rfl dX4_workedOut_13 ?_
        refine j_iload X 0 rfl dX4_workedOut_16 ?_
        refine j_iald X (by decide) rfl (show vp_in (nI i_1) 50 from vp_in_nI (by omega) (by decide)) dX4_workedOut_18 ?_
        refine j_eqi (v := M1 9 i_1) (by rw [nI_clamp (by omega)]) ?_
        refine j_istore X [(5, .int (M1 9 i_1)), (4, .int (nI i_1)), (0, .ref (ad 7)), (1, .int a), (2, .int b0), (3, .int c0)] (by decide) rfl dX4_workedOut_19 ?_
        refine j_aload_n X 2 rfl rfl dX4_workedOut_21 ?_
        refine j_get X (by decide) (wE_4 _ rfl) rfl awF4 0 (by decide) aw_52 rfl (v := .ref (ad 8)) rfl dX4_workedOut_22 ?_
        refine j_iload X 1 rfl dX4_workedOut_25 ?_
        refine j_iald X (by decide) rfl (show vp_in (nI i_1) 50 from vp_in_nI (by omega) (by decide)) dX4_workedOut_27 ?_
        refine j_eqi (v := M1 8 i_1) (by rw [nI_clamp (by omega)]) ?_
        refine j_bipush X (v := 48) (by decide) dX4_workedOut_28 ?_
        refine j_icmp_ne X 45 (by decide) dX4_workedOut_30 (fun c_3 => ?_) (fun c_3 => ?_)
        · have qc_3 := ti_ne (n := 48) (by decide) c_3
          refine j_aload_n X 2 rfl rfl dX4_workedOut_45 ?_
          refine j_get X (by decide) (wE_4 _ rfl) rfl awF4 0 (by decide) aw_52 rfl (v := .ref (ad 8)) rfl dX4_workedOut_46 ?_
          refine j_iload X 1 rfl dX4_workedOut_49 ?_
          refine j_iald X (by decide) rfl (show vp_in (nI i_1) 50 from vp_in_nI (by omega) (by decide)) dX4_workedOut_51 ?_
          refine j_eqi (v := M1 8 i_1) (by rw [nI_clamp (by omega)]) ?_
          refine j_bipush X (v := 110) (by decide) dX4_workedOut_52 ?_
          refine j_icmp_ne X 87 (by decide) dX4_workedOut_54 (fun c_4 => ?_) (fun c_4 => ?_)
          · have qc_4 := ti_ne (n := 110) (by decide) c_4
            refine j_aload_n X 2 rfl rfl dX4_workedOut_87 ?_
            refine j_get X (by decide) (wE_4 _ rfl) rfl awF4 3 (by decide) aw_55 rfl (v := .ref (ad 11)) rfl dX4_workedOut_88 ?_
            refine j_iload X 1 rfl dX4_workedOut_91 ?_
            refine j_aload_n X 2 rfl rfl dX4_workedOut_93 ?_
            refine j_get X (by decide) (wE_4 _ rfl) rfl awF4 0 (by decide) aw_52 rfl (v := .ref (ad 8)) rfl dX4_workedOut_94 ?_
            refine j_iload X 1 rfl dX4_workedOut_97 ?_
            refine j_iald X (by decide) rfl (show vp_in (nI i_1) 50 from vp_in_nI (by omega) (by decide)) dX4_workedOut_99 ?_
            refine j_eqi (v := M1 8 i_1) (by rw [nI_clamp (by omega)]) ?_
            refine j_aload_n X 2 rfl rfl dX4_workedOut_100 ?_
            refine j_get X (by decide) (wE_4 _ rfl) rfl awF4 3 (by decide) aw_55 rfl (v := .ref (ad 11)) rfl dX4_workedOut_101 ?_
            refine j_iload X 0 rfl dX4_workedOut_104 ?_
            refine j_iald X (by decide) rfl (in50_vp (textLR (t := 7) hT hs1 (by omega) c_3 c_4).1) dX4_workedOut_106 ?_
            refine j_eqi (v := M1 11 ((M1 9 i_1).toNatClampNeg)) rfl ?_
            refine j_aload_n X 2 rfl rfl dX4_workedOut_107 ?_
            refine j_get X (by decide) (wE_4 _ rfl) rfl awF4 3 (by decide) aw_55 rfl (v := .ref (ad 11)) rfl dX4_workedOut_108 ?_
            refine j_aload_n X 2 rfl rfl dX4_workedOut_111 ?_
            refine j_get X (by decide) (wE_4 _ rfl) rfl awF4 2 (by decide) aw_54 rfl (v := .ref (ad 10)) rfl dX4_workedOut_112 ?_
            refine j_iload X 1 rfl dX4_workedOut_115 ?_
            refine j_iald X (by decide) rfl (show vp_in (nI i_1) 50 from vp_in_nI (by omega) (by decide)) dX4_workedOut_117 ?_
            refine j_eqi (v := M1 10 i_1) (by rw [nI_clamp (by omega)]) ?_
            refine j_iald X (by decide) rfl (in50_vp (textLR (t := 7) hT hs1 (by omega) c_3 c_4).2) dX4_workedOut_118 ?_
            refine j_eqi (v := M1 11 ((M1 10 i_1).toNatClampNeg)) rfl ?_
            refine j_callSI X (nn := 3) (As := [.int (M1 8 i_1), .int (M1 11 ((M1 9 i_1).toNatClampNeg)), .int (M1 11 ((M1 10 i_1).toNatClampNeg))]) (st := [.int (nI i_1), .ref (ad 11)]) aw_213 (g_joined l D y ad M1 (M1 8 i_1) (M1 11 ((M1 9 i_1).toNatClampNeg)) (M1 11 ((M1 10 i_1).toNatClampNeg))) aw_212 aw_214 aw_41 (by decide +kernel) ⟨by decide, by decide⟩ rfl (Nat.le_of_ble_eq_true rfl) ⟨by decide, by decide⟩ dX4_workedOut_119 ?_
            rintro r_5 M1_ rfl
            refine j_iast X (by decide) rfl (show vp_in (nI i_1) 50 from vp_in_nI (by omega) (by decide)) dX4_workedOut_122 ?_
            refine j_eqM (M1 := (up M1 11 i_1 r_5)) (by rw [nI_clamp (by omega)]) ?_
            refine j_iinc X (v := (nI (i_1 + 1))) 1 [(4, .int (nI (i_1 + 1))), (5, .int (M1 9 i_1)), (0, .ref (ad 7)), (1, .int a), (2, .int b0), (3, .int c0)] rfl (show nI i_1 + Int32.ofInt 1 = _ from nI_1 i_1) (by decide) rfl dX4_workedOut_123 ?_
            refine j_goto X 3 (by decide) dX4_workedOut_126 ?_
            refine j_lv (lv1 := [(4, .int (nI (i_1 + 1))), (0, .ref (ad 7)), (1, .int a), (2, .int b0), (3, .int c0)]) [0, 2, 3, 4, 5] rfl ?_
            exact ih1 (i_1 + 1) _ (by omega) (by omega) (sm_up hs1 (by first | rfl | (simp; done) | (simp; omega) | (simp only [Bool.and_eq_true, Bool.or_eq_true, decide_eq_true_eq, beq_iff_eq]; omega)))
          · have qc_4 := ti_eq (n := 110) (by decide) c_4
            refine j_aload_n X 2 rfl rfl dX4_workedOut_57 ?_
            refine j_get X (by decide) (wE_4 _ rfl) rfl awF4 3 (by decide) aw_55 rfl (v := .ref (ad 11)) rfl dX4_workedOut_58 ?_
            refine j_iload X 1 rfl dX4_workedOut_61 ?_
            refine j_iload X 0 rfl dX4_workedOut_63 ?_
            refine j_if_ne X 72 (by decide) dX4_workedOut_65 (fun c_6 => ?_) (fun c_6 => ?_)
            · have qc_6 := ti_ne (n := 0) (by decide) c_6
              refine j_iload X 0 rfl dX4_workedOut_72 ?_
              refine j_iconst X (v := 1) (by decide) dX4_workedOut_74 ?_
              refine j_icmp_ne X 82 (by decide) dX4_workedOut_75 (fun c_7 => ?_) (fun c_7 => ?_)
              · have qc_7 := ti_ne (n := 1) (by decide) c_7
                refine j_iload_n X 5 rfl rfl dX4_workedOut_82 ?_
                refine j_iast X (by decide) rfl (show vp_in (nI i_1) 50 from vp_in_nI (by omega) (by decide)) dX4_workedOut_83 ?_
                refine j_eqM (M1 := (up M1 11 i_1 c0)) (by rw [nI_clamp (by omega)]) ?_
                refine j_goto X 123 (by decide) dX4_workedOut_84 ?_
                refine j_iinc X (v := (nI (i_1 + 1))) 1 [(4, .int (nI (i_1 + 1))), (5, .int (M1 9 i_1)), (0, .ref (ad 7)), (1, .int a), (2, .int b0), (3, .int c0)] rfl (show nI i_1 + Int32.ofInt 1 = _ from nI_1 i_1) (by decide) rfl dX4_workedOut_123 ?_
                refine j_goto X 3 (by decide) dX4_workedOut_126 ?_
                refine j_lv (lv1 := [(4, .int (nI (i_1 + 1))), (0, .ref (ad 7)), (1, .int a), (2, .int b0), (3, .int c0)]) [0, 2, 3, 4, 5] rfl ?_
                exact ih1 (i_1 + 1) _ (by omega) (by omega) (sm_up hs1 (by first | rfl | (simp; done) | (simp; omega) | (simp only [Bool.and_eq_true, Bool.or_eq_true, decide_eq_true_eq, beq_iff_eq]; omega)))
              · have qc_7 := ti_eq (n := 1) (by decide) c_7
                refine j_iload_n X 4 rfl rfl dX4_workedOut_78 ?_
                refine j_goto X 83 (by decide) dX4_workedOut_79 ?_
                refine j_iast X (by decide) rfl (show vp_in (nI i_1) 50 from vp_in_nI (by omega) (by decide)) dX4_workedOut_83 ?_
                refine j_eqM (M1 := (up M1 11 i_1 b0)) (by rw [nI_clamp (by omega)]) ?_
                refine j_goto X 123 (by decide) dX4_workedOut_84 ?_
                refine j_iinc X (v := (nI (i_1 + 1))) 1 [(4, .int (nI (i_1 + 1))), (5, .int (M1 9 i_1)), (0, .ref (ad 7)), (1, .int a), (2, .int b0), (3, .int c0)] rfl (show nI i_1 + Int32.ofInt 1 = _ from nI_1 i_1) (by decide) rfl dX4_workedOut_123 ?_
                refine j_goto X 3 (by decide) dX4_workedOut_126 ?_
                refine j_lv (lv1 := [(4, .int (nI (i_1 + 1))), (0, .ref (ad 7)), (1, .int a), (2, .int b0), (3, .int c0)]) [0, 2, 3, 4, 5] rfl ?_
                exact ih1 (i_1 + 1) _ (by omega) (by omega) (sm_up hs1 (by first | rfl | (simp; done) | (simp; omega) | (simp only [Bool.and_eq_true, Bool.or_eq_true, decide_eq_true_eq, beq_iff_eq]; omega)))
            · have qc_6 := ti_eq (n := 0) (by decide) c_6
              refine j_iload_n X 3 rfl rfl dX4_workedOut_68 ?_
              refine j_goto X 83 (by decide) dX4_workedOut_69 ?_
              refine j_iast X (by decide) rfl (show vp_in (nI i_1) 50 from vp_in_nI (by omega) (by decide)) dX4_workedOut_83 ?_
              refine j_eqM (M1 := (up M1 11 i_1 a)) (by rw [nI_clamp (by omega)]) ?_
              refine j_goto X 123 (by decide) dX4_workedOut_84 ?_
              refine j_iinc X (v := (nI (i_1 + 1))) 1 [(4, .int (nI (i_1 + 1))), (5, .int (M1 9 i_1)), (0, .ref (ad 7)), (1, .int a), (2, .int b0), (3, .int c0)] rfl (show nI i_1 + Int32.ofInt 1 = _ from nI_1 i_1) (by decide) rfl dX4_workedOut_123 ?_
              refine j_goto X 3 (by decide) dX4_workedOut_126 ?_
              refine j_lv (lv1 := [(4, .int (nI (i_1 + 1))), (0, .ref (ad 7)), (1, .int a), (2, .int b0), (3, .int c0)]) [0, 2, 3, 4, 5] rfl ?_
              exact ih1 (i_1 + 1) _ (by omega) (by omega) (sm_up hs1 (by first | rfl | (simp; done) | (simp; omega) | (simp only [Bool.and_eq_true, Bool.or_eq_true, decide_eq_true_eq, beq_iff_eq]; omega)))
        · have qc_3 := ti_eq (n := 48) (by decide) c_3
          refine j_aload_n X 2 rfl rfl dX4_workedOut_33 ?_
          refine j_get X (by decide) (wE_4 _ rfl) rfl awF4 3 (by decide) aw_55 rfl (v := .ref (ad 11)) rfl dX4_workedOut_34 ?_
          refine j_iload X 1 rfl dX4_workedOut_37 ?_
          refine j_iload X 0 rfl dX4_workedOut_39 ?_
          refine j_iast X (by decide) rfl (show vp_in (nI i_1) 50 from vp_in_nI (by omega) (by decide)) dX4_workedOut_41 ?_
          refine j_eqM (M1 := (up M1 11 i_1 (M1 9 i_1))) (by rw [nI_clamp (by omega)]) ?_
          refine j_goto X 123 (by decide) dX4_workedOut_42 ?_
          refine j_iinc X (v := (nI (i_1 + 1))) 1 [(4, .int (nI (i_1 + 1))), (5, .int (M1 9 i_1)), (0, .ref (ad 7)), (1, .int a), (2, .int b0), (3, .int c0)] rfl (show nI i_1 + Int32.ofInt 1 = _ from nI_1 i_1) (by decide) rfl dX4_workedOut_123 ?_
          refine j_goto X 3 (by decide) dX4_workedOut_126 ?_
          refine j_lv (lv1 := [(4, .int (nI (i_1 + 1))), (0, .ref (ad 7)), (1, .int a), (2, .int b0), (3, .int c0)]) [0, 2, 3, 4, 5] rfl ?_
          exact ih1 (i_1 + 1) _ (by omega) (by omega) (sm_up hs1 (by first | rfl | (simp; done) | (simp; omega) | (simp only [Bool.and_eq_true, Bool.or_eq_true, decide_eq_true_eq, beq_iff_eq]; omega)))
  refine j_lv (lv1 := [(4, .int (nI 0)), (0, .ref (ad 7)), (1, .int a), (2, .int b0), (3, .int c0)]) [0, 1, 2, 3, 4] rfl ?_
  exact loop1 (z + 1) 0 _ (by omega) (by omega) sm_rf
theorem TextOK_keep {M M1 : Mem} {P : Nat → Nat → Bool} {t z : Nat} (hs : sm P M M1) (h0 : ∀ k, P t k = false) (h1 : ∀ k, P (t + 1) k = false) (h2 : ∀ k, P (t + 2) k = false) (h3 : ∀ k, P (t + 3) k = false) (hT : TextOK M t z) : TextOK M1 t z := by
  refine ⟨(hs t 5 (h0 5)).trans hT.1, hT.2.1, fun j hj => ?_⟩
  rw [hs (t + 1) j (h1 j), hs (t + 2) j (h2 j), hs (t + 3) j (h3 j)]
  exact hT.2.2 j hj
set_option maxRecDepth 100000 in
set_option maxHeartbeats 4000000 in
theorem g_gives_2 (l : Launch) (D : va_G) (y : wY) (ad : Nat → Nat) (M : Mem) (z : Nat) (hT : TextOK M 2 z) (a b0 c0 : Int32) : MI l D y ad yX4_gives (Cond.code yX4_gives cX4_gives 5 (some .int)) 2 M [.ref (ad 2), .int a, .int b0, .int c0] (fun _ M' => sm (fun b _ => b == 6) M M') := by
  refine MI_of (by decide) (Nat.le_of_ble_eq_true rfl) ?_
  intro p e s m args below meth c X hr hlocks
  refine j_lv (lv1 := [(0, .ref (ad 2)), (1, .int a), (2, .int b0), (3, .int c0)]) [0, 1, 2, 3] rfl ?_
  refine j_aload_n X 0 rfl rfl dX4_gives_0 ?_
  refine j_get X (by decide) (wE_4 _ rfl) rfl awF4 5 (by decide) aw_73 rfl (v := .int (M 2 5)) rfl dX4_gives_1 ?_
  refine j_eqi (v := (nI z)) hT.1 ?_
  refine j_if_le X 17 (by decide) dX4_gives_4 (fun c_1 => ?_) (fun c_1 => ?_)
  · refine j_aload_n X 0 rfl rfl dX4_gives_17 ?_
    refine j_get X (by decide) (wE_4 _ rfl) rfl awF4 4 (by decide) aw_72 rfl (v := .int (M 2 4)) rfl dX4_gives_18 ?_
    refine j_if_ne X 29 (by decide) dX4_gives_21 (fun c_2 => ?_) (fun c_2 => ?_)
    · have qc_2 := ti_ne (n := 0) (by decide) c_2
      refine j_bipush X (v := 9) (by decide) dX4_gives_29 ?_
      refine j_iload_n X 1 rfl rfl dX4_gives_31 ?_
      refine j_bipush X (v := 11) (by decide) dX4_gives_32 ?_
      refine j_idiv X (by decide) dX4_gives_34 ?_
      refine j_isub X dX4_gives_35 ?_
      refine j_istore X [(4, .int (9 - (a / 11))), (0, .ref (ad 2)), (1, .int a), (2, .int b0), (3, .int c0)] (by decide) rfl dX4_gives_36 ?_
      refine j_iconst X (v := 0) (by decide) dX4_gives_38 ?_
      refine j_bipush X (v := 99) (by decide) dX4_gives_39 ?_
      refine j_iload X 0 rfl dX4_gives_41 ?_
      refine j_mmin X aw_201 aw_202 aw_203 aw_204 (by decide) (Nat.le_of_ble_eq_true rfl) (by decide) (by decide) dX4_gives_43 ?_
      refine j_mmax X aw_205 aw_206 aw_203 aw_207 (by decide) (Nat.le_of_ble_eq_true rfl) (by decide) (by decide) dX4_gives_46 ?_
      exact j_iret X hr hlocks dX4_gives_49 sm_rf
    · have qc_2 := ti_eq (n := 0) (by decide) c_2
      refine j_bipush X (v := 20) (by decide) dX4_gives_24 ?_
      refine j_goto X 36 (by decide) dX4_gives_26 ?_
      refine j_istore X [(4, .int 20), (0, .ref (ad 2)), (1, .int a), (2, .int b0), (3, .int c0)] (by decide) rfl dX4_gives_36 ?_
      refine j_iconst X (v := 0) (by decide) dX4_gives_38 ?_
      refine j_bipush X (v := 99) (by decide) dX4_gives_39 ?_
      refine j_iload X 0 rfl dX4_gives_41 ?_
      refine j_mmin X aw_201 aw_202 aw_203 aw_204 (by decide) (Nat.le_of_ble_eq_true rfl) (by decide) (by decide) dX4_gives_43 ?_
      refine j_eqi (v := 20) (by decide) ?_
      refine j_mmax X aw_205 aw_206 aw_203 aw_207 (by decide) (Nat.le_of_ble_eq_true rfl) (by decide) (by decide) dX4_gives_46 ?_
      refine j_eqi (v := 20) (by decide) ?_
      exact j_iret X hr hlocks dX4_gives_49 sm_rf
  · refine j_aload_n X 0 rfl rfl dX4_gives_7 ?_
    refine j_iload_n X 1 rfl rfl dX4_gives_8 ?_
    refine j_iload_n X 2 rfl rfl dX4_gives_9 ?_
    refine j_iload_n X 3 rfl rfl dX4_gives_10 ?_
    refine j_callVI X (nn := 3) (As := [.int a, .int b0, .int c0]) (st := []) (ci := 4) (by decide) (wE_4 _ rfl) rfl aw_209 aw_210 (g_workedOut_2 l D y ad M z (by rcases Nat.eq_zero_or_pos z with e0 | e0; exact absurd (by rw [e0]; decide) c_1; exact e0) hT a b0 c0) aw_208 aw_211 aw_41 (by decide +kernel) ⟨by decide, by decide⟩ rfl (Nat.le_of_ble_eq_true rfl) ⟨by decide, by decide⟩ dX4_gives_11 ?_
    rintro r_4 M_5 s_3
    refine j_goto X 36 (by decide) dX4_gives_14 ?_
    refine j_istore X [(4, .int r_4), (0, .ref (ad 2)), (1, .int a), (2, .int b0), (3, .int c0)] (by decide) rfl dX4_gives_36 ?_
    refine j_iconst X (v := 0) (by decide) dX4_gives_38 ?_
    refine j_bipush X (v := 99) (by decide) dX4_gives_39 ?_
    refine j_iload X 0 rfl dX4_gives_41 ?_
    refine j_mmin X aw_201 aw_202 aw_203 aw_204 (by decide) (Nat.le_of_ble_eq_true rfl) (by decide) (by decide) dX4_gives_43 ?_
    refine j_mmax X aw_205 aw_206 aw_203 aw_207 (by decide) (Nat.le_of_ble_eq_true rfl) (by decide) (by decide) dX4_gives_46 ?_
    exact j_iret X hr hlocks dX4_gives_49 (sm_tr sm_rf (sm_w s_3 (by intro b k hb; first | rfl | exact hb | (simp only [Bool.or_eq_false_iff, Bool.and_eq_false_iff, beq_eq_false_iff_ne, ne_eq, decide_eq_false_iff_not] at hb ⊢; omega))))
set_option maxRecDepth 100000 in
set_option maxHeartbeats 4000000 in
theorem g_gives_7 (l : Launch) (D : va_G) (y : wY) (ad : Nat → Nat) (M : Mem) (z : Nat) (hT : TextOK M 7 z) (a b0 c0 : Int32) : MI l D y ad yX4_gives (Cond.code yX4_gives cX4_gives 5 (some .int)) 2 M [.ref (ad 7), .int a, .int b0, .int c0] (fun _ M' => sm (fun b _ => b == 11) M M') := by
  refine MI_of (by decide) (Nat.le_of_ble_eq_true rfl) ?_
  intro p e s m args below meth c X hr hlocks
  refine j_lv (lv1 := [(0, .ref (ad 7)), (1, .int a), (2, .int b0), (3, .int c0)]) [0, 1, 2, 3] rfl ?_
  refine j_aload_n X 0 rfl rfl dX4_gives_0 ?_
  refine j_get X (by decide) (wE_4 _ rfl) rfl awF4 5 (by decide) aw_73 rfl (v := .int (M 7 5)) rfl dX4_gives_1 ?_
  refine j_eqi (v := (nI z)) hT.1 ?_
  refine j_if_le X 17 (by decide) dX4_gives_4 (fun c_1 => ?_) (fun c_1 => ?_)
  · refine j_aload_n X 0 rfl rfl dX4_gives_17 ?_
    refine j_get X (by decide) (wE_4 _ rfl) rfl awF4 4 (by decide) aw_72 rfl (v := .int (M 7 4)) rfl dX4_gives_18 ?_
    refine j_if_ne X 29 (by decide) dX4_gives_21 (fun c_2 => ?_) (fun c_2 => ?_)
    · have qc_2 := ti_ne (n := 0) (by decide) c_2
      refine j_bipush X (v := 9) (by decide) dX4_gives_29 ?_
      refine j_iload_n X 1 rfl rfl dX4_gives_31 ?_
      refine j_bipush X (v := 11) (by decide) dX4_gives_32 ?_
      refine j_idiv X (by decide) dX4_gives_34 ?_
      refine j_isub X dX4_gives_35 ?_
      refine j_istore X [(4, .int (9 - (a / 11))), (0, .ref (ad 7)), (1, .int a), (2, .int b0), (3, .int c0)] (by decide) rfl dX4_gives_36 ?_
      refine j_iconst X (v := 0) (by decide) dX4_gives_38 ?_
      refine j_bipush X (v := 99) (by decide) dX4_gives_39 ?_
      refine j_iload X 0 rfl dX4_gives_41 ?_
      refine j_mmin X aw_201 aw_202 aw_203 aw_204 (by decide) (Nat.le_of_ble_eq_true rfl) (by decide) (by decide) dX4_gives_43 ?_
      refine j_mmax X aw_205 aw_206 aw_203 aw_207 (by decide) (Nat.le_of_ble_eq_true rfl) (by decide) (by decide) dX4_gives_46 ?_
      exact j_iret X hr hlocks dX4_gives_49 sm_rf
    · have qc_2 := ti_eq (n := 0) (by decide) c_2
      refine j_bipush X (v := 20) (by decide) dX4_gives_24 ?_
      refine j_goto X 36 (by decide) dX4_gives_26 ?_
      refine j_istore X [(4, .int 20), (0, .ref (ad 7)), (1, .int a), (2, .int b0), (3, .int c0)] (by decide) rfl dX4_gives_36 ?_
      refine j_iconst X (v := 0) (by decide) dX4_gives_38 ?_
      refine j_bipush X (v := 99) (by decide) dX4_gives_39 ?_
      refine j_iload X 0 rfl dX4_gives_41 ?_
      refine j_mmin X aw_201 aw_202 aw_203 aw_204 (by decide) (Nat.le_of_ble_eq_true rfl) (by decide) (by decide) dX4_gives_43 ?_
      refine j_eqi (v := 20) (by decide) ?_
      refine j_mmax X aw_205 aw_206 aw_203 aw_207 (by decide) (Nat.le_of_ble_eq_true rfl) (by decide) (by decide) dX4_gives_46 ?_
      refine j_eqi (v := 20) (by decide) ?_
      exact j_iret X hr hlocks dX4_gives_49 sm_rf
  · refine j_aload_n X 0 rfl rfl dX4_gives_7 ?_
    refine j_iload_n X 1 rfl rfl dX4_gives_8 ?_
    refine j_iload_n X 2 rfl rfl dX4_gives_9 ?_
    refine j_iload_n X 3 rfl rfl dX4_gives_10 ?_
    refine j_callVI X (nn := 3) (As := [.int a, .int b0, .int c0]) (st := []) (ci := 4) (by decide) (wE_4 _ rfl) rfl aw_209 aw_210 (g_workedOut_7 l D y ad M z (by rcases Nat.eq_zero_or_pos z with e0 | e0; exact absurd (by rw [e0]; decide) c_1; exact e0) hT a b0 c0) aw_208 aw_211 aw_41 (by decide +kernel) ⟨by decide, by decide⟩ rfl (Nat.le_of_ble_eq_true rfl) ⟨by decide, by decide⟩ dX4_gives_11 ?_
    rintro r_4 M_5 s_3
    refine j_goto X 36 (by decide) dX4_gives_14 ?_
    refine j_istore X [(4, .int r_4), (0, .ref (ad 7)), (1, .int a), (2, .int b0), (3, .int c0)] (by decide) rfl dX4_gives_36 ?_
    refine j_iconst X (v := 0) (by decide) dX4_gives_38 ?_
    refine j_bipush X (v := 99) (by decide) dX4_gives_39 ?_
    refine j_iload X 0 rfl dX4_gives_41 ?_
    refine j_mmin X aw_201 aw_202 aw_203 aw_204 (by decide) (Nat.le_of_ble_eq_true rfl) (by decide) (by decide) dX4_gives_43 ?_
    refine j_mmax X aw_205 aw_206 aw_203 aw_207 (by decide) (Nat.le_of_ble_eq_true rfl) (by decide) (by decide) dX4_gives_46 ?_
    exact j_iret X hr hlocks dX4_gives_49 (sm_tr sm_rf (sm_w s_3 (by intro b k hb; first | rfl | exact hb | (simp only [Bool.or_eq_false_iff, Bool.and_eq_false_iff, beq_eq_false_iff_ne, ne_eq, decide_eq_false_iff_not] at hb ⊢; omega))))
