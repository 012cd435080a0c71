theorem dX8_moveAll_0 : decode cX8_moveAll 0 = .ok (.iconst 0, 1) := by decide +kernel
theorem dX8_moveAll_1 : decode cX8_moveAll 1 = .ok (.istore_n 3, 1) := by decide +kernel
theorem dX8_moveAll_2 : decode cX8_moveAll 2 = .ok (.iload_n 3, 1) := by decide +kernel
theorem dX8_moveAll_3 : decode cX8_moveAll 3 = .ok (.sipush 244, 3) := by decide +kernel
theorem dX8_moveAll_6 : decode cX8_moveAll 6 = .ok (.if_icmp .ge 15, 3) := by decide +kernel
theorem dX8_moveAll_21 : decode cX8_moveAll 21 = .ok (.return_, 1) := by decide +kernel
theorem dX8_moveAll_9 : decode cX8_moveAll 9 = .ok (.aload_n 2, 1) := by decide +kernel
theorem dX8_moveAll_10 : decode cX8_moveAll 10 = .ok (.iload_n 3, 1) := by decide +kernel
theorem dX8_moveAll_11 : decode cX8_moveAll 11 = .ok (.aload_n 1, 1) := by decide +kernel
theorem dX8_moveAll_12 : decode cX8_moveAll 12 = .ok (.iload_n 3, 1) := by decide +kernel
theorem dX8_moveAll_13 : decode cX8_moveAll 13 = .ok (.iaload, 1) := by decide +kernel
theorem dX8_moveAll_14 : decode cX8_moveAll 14 = .ok (.iastore, 1) := by decide +kernel
theorem dX8_moveAll_15 : decode cX8_moveAll 15 = .ok (.iinc 3 1, 3) := by decide +kernel
theorem dX8_moveAll_18 : decode cX8_moveAll 18 = .ok (.goto (-16), 3) := by decide +kernel
theorem dX8_overSet_0 : decode cX8_overSet 0 = .ok (.iconst 0, 1) := by decide +kernel
theorem dX8_overSet_1 : decode cX8_overSet 1 = .ok (.istore_n 1, 1) := by decide +kernel
theorem dX8_overSet_2 : decode cX8_overSet 2 = .ok (.iconst 0, 1) := by decide +kernel
theorem dX8_overSet_3 : decode cX8_overSet 3 = .ok (.istore_n 2, 1) := by decide +kernel
theorem dX8_overSet_4 : decode cX8_overSet 4 = .ok (.iload_n 2, 1) := by decide +kernel
theorem dX8_overSet_5 : decode cX8_overSet 5 = .ok (.aload_n 0, 1) := by decide +kernel
theorem dX8_overSet_6 : decode cX8_overSet 6 = .ok (.getfield 7, 3) := by decide +kernel
theorem dX8_overSet_9 : decode cX8_overSet 9 = .ok (.iconst 2, 1) := by decide +kernel
theorem dX8_overSet_10 : decode cX8_overSet 10 = .ok (.iaload, 1) := by decide +kernel
theorem dX8_overSet_11 : decode cX8_overSet 11 = .ok (.if_icmp .ge 20, 3) := by decide +kernel
theorem dX8_overSet_31 : decode cX8_overSet 31 = .ok (.iload_n 1, 1) := by decide +kernel
theorem dX8_overSet_32 : decode cX8_overSet 32 = .ok (.ireturn, 1) := by decide +kernel
theorem dX8_edgesOfAll_0 : decode cX8_edgesOfAll 0 = .ok (.iconst 0, 1) := by decide +kernel
theorem dX8_edgesOfAll_1 : decode cX8_edgesOfAll 1 = .ok (.istore_n 1, 1) := by decide +kernel
theorem dX8_edgesOfAll_2 : decode cX8_edgesOfAll 2 = .ok (.iconst 0, 1) := by decide +kernel
theorem dX8_edgesOfAll_3 : decode cX8_edgesOfAll 3 = .ok (.istore_n 2, 1) := by decide +kernel
theorem dX8_edgesOfAll_4 : decode cX8_edgesOfAll 4 = .ok (.iload_n 2, 1) := by decide +kernel
theorem dX8_edgesOfAll_5 : decode cX8_edgesOfAll 5 = .ok (.aload_n 0, 1) := by decide +kernel
theorem dX8_edgesOfAll_6 : decode cX8_edgesOfAll 6 = .ok (.getfield 7, 3) := by decide +kernel
theorem dX8_edgesOfAll_9 : decode cX8_edgesOfAll 9 = .ok (.iconst 2, 1) := by decide +kernel
theorem dX8_edgesOfAll_10 : decode cX8_edgesOfAll 10 = .ok (.iaload, 1) := by decide +kernel
theorem dX8_edgesOfAll_11 : decode cX8_edgesOfAll 11 = .ok (.if_icmp .ge 18, 3) := by decide +kernel
theorem dX8_edgesOfAll_29 : decode cX8_edgesOfAll 29 = .ok (.iload_n 1, 1) := by decide +kernel
theorem dX8_edgesOfAll_30 : decode cX8_edgesOfAll 30 = .ok (.ireturn, 1) := by decide +kernel
theorem dX8_bits_0 : decode cX8_bits 0 = .ok (.iconst 0, 1) := by decide +kernel
theorem dX8_bits_1 : decode cX8_bits 1 = .ok (.istore_n 1, 1) := by decide +kernel
theorem dX8_bits_2 : decode cX8_bits 2 = .ok (.iload_n 0, 1) := by decide +kernel
theorem dX8_bits_3 : decode cX8_bits 3 = .ok (.istore_n 2, 1) := by decide +kernel
theorem dX8_bits_4 : decode cX8_bits 4 = .ok (.iload_n 2, 1) := by decide +kernel
theorem dX8_bits_5 : decode cX8_bits 5 = .ok (.ifCond .eq 15, 3) := by decide +kernel
theorem dX8_bits_20 : decode cX8_bits 20 = .ok (.iload_n 1, 1) := by decide +kernel
theorem dX8_bits_21 : decode cX8_bits 21 = .ok (.ireturn, 1) := by decide +kernel
theorem dX8_grindsAll_0 : decode cX8_grindsAll 0 = .ok (.iconst 0, 1) := by decide +kernel
theorem dX8_grindsAll_1 : decode cX8_grindsAll 1 = .ok (.istore_n 1, 1) := by decide +kernel
theorem dX8_grindsAll_2 : decode cX8_grindsAll 2 = .ok (.iload_n 1, 1) := by decide +kernel
theorem dX8_grindsAll_3 : decode cX8_grindsAll 3 = .ok (.aload_n 0, 1) := by decide +kernel
theorem dX8_grindsAll_4 : decode cX8_grindsAll 4 = .ok (.getfield 7, 3) := by decide +kernel
theorem dX8_grindsAll_7 : decode cX8_grindsAll 7 = .ok (.iconst 2, 1) := by decide +kernel
theorem dX8_grindsAll_8 : decode cX8_grindsAll 8 = .ok (.iaload, 1) := by decide +kernel
theorem dX8_grindsAll_9 : decode cX8_grindsAll 9 = .ok (.if_icmp .ge 79, 3) := by decide +kernel
theorem dX8_grindsAll_88 : decode cX8_grindsAll 88 = .ok (.return_, 1) := by decide +kernel
theorem dX8_oneDay_0 : decode cX8_oneDay 0 = .ok (.iload_n 1, 1) := by decide +kernel
theorem dX8_oneDay_1 : decode cX8_oneDay 1 = .ok (.ifCond .eq 7, 3) := by decide +kernel
theorem dX8_oneDay_8 : decode cX8_oneDay 8 = .ok (.iconst 0, 1) := by decide +kernel
theorem dX8_oneDay_9 : decode cX8_oneDay 9 = .ok (.istore_n 2, 1) := by decide +kernel
theorem dX8_oneDay_10 : decode cX8_oneDay 10 = .ok (.iload_n 2, 1) := by decide +kernel
theorem dX8_oneDay_11 : decode cX8_oneDay 11 = .ok (.aload_n 0, 1) := by decide +kernel
theorem dX8_oneDay_12 : decode cX8_oneDay 12 = .ok (.getfield 7, 3) := by decide +kernel
theorem dX8_oneDay_15 : decode cX8_oneDay 15 = .ok (.iconst 2, 1) := by decide +kernel
theorem dX8_oneDay_16 : decode cX8_oneDay 16 = .ok (.iaload, 1) := by decide +kernel
theorem dX8_oneDay_17 : decode cX8_oneDay 17 = .ok (.if_icmp .ge 22, 3) := by decide +kernel
theorem dX8_oneDay_39 : decode cX8_oneDay 39 = .ok (.aload_n 0, 1) := by decide +kernel
theorem dX8_oneDay_40 : decode cX8_oneDay 40 = .ok (.getfield 7, 3) := by decide +kernel
theorem dX8_oneDay_43 : decode cX8_oneDay 43 = .ok (.bipush 7, 2) := by decide +kernel
theorem dX8_oneDay_45 : decode cX8_oneDay 45 = .ok (.aload_n 0, 1) := by decide +kernel
theorem dX8_oneDay_46 : decode cX8_oneDay 46 = .ok (.getfield 7, 3) := by decide +kernel
theorem dX8_oneDay_49 : decode cX8_oneDay 49 = .ok (.bipush 7, 2) := by decide +kernel
theorem dX8_oneDay_51 : decode cX8_oneDay 51 = .ok (.iaload, 1) := by decide +kernel
theorem dX8_oneDay_52 : decode cX8_oneDay 52 = .ok (.aload_n 0, 1) := by decide +kernel
theorem dX8_oneDay_53 : decode cX8_oneDay 53 = .ok (.getfield 7, 3) := by decide +kernel
theorem dX8_oneDay_56 : decode cX8_oneDay 56 = .ok (.bipush 8, 2) := by decide +kernel
theorem dX8_oneDay_58 : decode cX8_oneDay 58 = .ok (.iaload, 1) := by decide +kernel
theorem dX8_oneDay_59 : decode cX8_oneDay 59 = .ok (.iadd, 1) := by decide +kernel
theorem dX8_oneDay_60 : decode cX8_oneDay 60 = .ok (.bipush 10, 2) := by decide +kernel
theorem dX8_oneDay_62 : decode cX8_oneDay 62 = .ok (.irem, 1) := by decide +kernel
theorem dX8_oneDay_63 : decode cX8_oneDay 63 = .ok (.iastore, 1) := by decide +kernel
theorem dX8_oneDay_64 : decode cX8_oneDay 64 = .ok (.aload_n 0, 1) := by decide +kernel
theorem dX8_oneDay_65 : decode cX8_oneDay 65 = .ok (.getfield 7, 3) := by decide +kernel
theorem dX8_oneDay_68 : decode cX8_oneDay 68 = .ok (.iconst 0, 1) := by decide +kernel
theorem dX8_oneDay_69 : decode cX8_oneDay 69 = .ok (.dup2, 1) := by decide +kernel
theorem dX8_oneDay_70 : decode cX8_oneDay 70 = .ok (.iaload, 1) := by decide +kernel
theorem dX8_oneDay_71 : decode cX8_oneDay 71 = .ok (.iconst 1, 1) := by decide +kernel
theorem dX8_oneDay_72 : decode cX8_oneDay 72 = .ok (.iadd, 1) := by decide +kernel
theorem dX8_oneDay_73 : decode cX8_oneDay 73 = .ok (.iastore, 1) := by decide +kernel
theorem dX8_oneDay_74 : decode cX8_oneDay 74 = .ok (.return_, 1) := by decide +kernel
theorem dX8_oneDay_4 : decode cX8_oneDay 4 = .ok (.aload_n 0, 1) := by decide +kernel
theorem dX8_oneDay_5 : decode cX8_oneDay 5 = .ok (.invokevirtual 165, 3) := by decide +kernel
theorem dX8_passes_0 : decode cX8_passes 0 = .ok (.iconst 0, 1) := by decide +kernel
theorem dX8_passes_1 : decode cX8_passes 1 = .ok (.istore_n 2, 1) := by decide +kernel
theorem dX8_passes_2 : decode cX8_passes 2 = .ok (.iload_n 2, 1) := by decide +kernel
theorem dX8_passes_3 : decode cX8_passes 3 = .ok (.iload_n 1, 1) := by decide +kernel
theorem dX8_passes_4 : decode cX8_passes 4 = .ok (.if_icmp .ge 14, 3) := by decide +kernel
theorem dX8_passes_18 : decode cX8_passes 18 = .ok (.return_, 1) := by decide +kernel
theorem dX8_passes_7 : decode cX8_passes 7 = .ok (.aload_n 0, 1) := by decide +kernel
theorem dX8_passes_8 : decode cX8_passes 8 = .ok (.iconst 1, 1) := by decide +kernel
theorem dX8_passes_9 : decode cX8_passes 9 = .ok (.invokevirtual 171, 3) := by decide +kernel
theorem dX8_passes_12 : decode cX8_passes 12 = .ok (.iinc 2 1, 3) := by decide +kernel
theorem dX8_passes_15 : decode cX8_passes 15 = .ok (.goto (-13), 3) := by decide +kernel
theorem dX8_overBehind_0 : decode cX8_overBehind 0 = .ok (.aload_n 0, 1) := by decide +kernel
theorem dX8_overBehind_1 : decode cX8_overBehind 1 = .ok (.aload_n 0, 1) := by decide +kernel
theorem dX8_overBehind_2 : decode cX8_overBehind 2 = .ok (.getfield 7, 3) := by decide +kernel
theorem dX8_overBehind_5 : decode cX8_overBehind 5 = .ok (.aload_n 0, 1) := by decide +kernel
theorem dX8_overBehind_6 : decode cX8_overBehind 6 = .ok (.getfield 16, 3) := by decide +kernel
theorem dX8_overBehind_9 : decode cX8_overBehind 9 = .ok (.invokevirtual 175, 3) := by decide +kernel
theorem dX8_overBehind_12 : decode cX8_overBehind 12 = .ok (.aload_n 0, 1) := by decide +kernel
theorem dX8_overBehind_13 : decode cX8_overBehind 13 = .ok (.iload_n 1, 1) := by decide +kernel
theorem dX8_overBehind_14 : decode cX8_overBehind 14 = .ok (.invokevirtual 179, 3) := by decide +kernel
theorem dX8_overBehind_17 : decode cX8_overBehind 17 = .ok (.aload_n 0, 1) := by decide +kernel
theorem dX8_overBehind_18 : decode cX8_overBehind 18 = .ok (.invokevirtual 182, 3) := by decide +kernel
theorem dX8_overBehind_21 : decode cX8_overBehind 21 = .ok (.istore_n 2, 1) := by decide +kernel
theorem dX8_overBehind_22 : decode cX8_overBehind 22 = .ok (.aload_n 0, 1) := by decide +kernel
theorem dX8_overBehind_23 : decode cX8_overBehind 23 = .ok (.aload_n 0, 1) := by decide +kernel
theorem dX8_overBehind_24 : decode cX8_overBehind 24 = .ok (.getfield 16, 3) := by decide +kernel
theorem dX8_overBehind_27 : decode cX8_overBehind 27 = .ok (.aload_n 0, 1) := by decide +kernel
theorem dX8_overBehind_28 : decode cX8_overBehind 28 = .ok (.getfield 7, 3) := by decide +kernel
theorem dX8_overBehind_31 : decode cX8_overBehind 31 = .ok (.invokevirtual 175, 3) := by decide +kernel
theorem dX8_overBehind_34 : decode cX8_overBehind 34 = .ok (.iload_n 2, 1) := by decide +kernel
theorem dX8_overBehind_35 : decode cX8_overBehind 35 = .ok (.ireturn, 1) := by decide +kernel
theorem dX8_isQuarrel_0 : decode cX8_isQuarrel 0 = .ok (.iload_n 1, 1) := by decide +kernel
theorem dX8_isQuarrel_1 : decode cX8_isQuarrel 1 = .ok (.iconst 0, 1) := by decide +kernel
theorem dX8_isQuarrel_2 : decode cX8_isQuarrel 2 = .ok (.aload_n 0, 1) := by decide +kernel
theorem dX8_isQuarrel_3 : decode cX8_isQuarrel 3 = .ok (.getfield 7, 3) := by decide +kernel
theorem dX8_isQuarrel_6 : decode cX8_isQuarrel 6 = .ok (.iconst 2, 1) := by decide +kernel
theorem dX8_isQuarrel_7 : decode cX8_isQuarrel 7 = .ok (.iaload, 1) := by decide +kernel
theorem dX8_isQuarrel_8 : decode cX8_isQuarrel 8 = .ok (.iconst 1, 1) := by decide +kernel
theorem dX8_isQuarrel_9 : decode cX8_isQuarrel 9 = .ok (.isub, 1) := by decide +kernel
theorem dX8_isQuarrel_10 : decode cX8_isQuarrel 10 = .ok (.invokestatic 47, 3) := by decide +kernel
theorem dX8_isQuarrel_13 : decode cX8_isQuarrel 13 = .ok (.ireturn, 1) := by decide +kernel
theorem dX8_isArea_0 : decode cX8_isArea 0 = .ok (.iload_n 0, 1) := by decide +kernel
theorem dX8_isArea_1 : decode cX8_isArea 1 = .ok (.iconst 0, 1) := by decide +kernel
theorem dX8_isArea_2 : decode cX8_isArea 2 = .ok (.bipush 9, 2) := by decide +kernel
theorem dX8_isArea_4 : decode cX8_isArea 4 = .ok (.invokestatic 47, 3) := by decide +kernel
theorem dX8_isArea_7 : decode cX8_isArea 7 = .ok (.ireturn, 1) := by decide +kernel
theorem dX8_isSheet_0 : decode cX8_isSheet 0 = .ok (.iload_n 0, 1) := by decide +kernel
theorem dX8_isSheet_1 : decode cX8_isSheet 1 = .ok (.iconst 0, 1) := by decide +kernel
theorem dX8_isSheet_2 : decode cX8_isSheet 2 = .ok (.iconst 3, 1) := by decide +kernel
theorem dX8_isSheet_3 : decode cX8_isSheet 3 = .ok (.invokestatic 47, 3) := by decide +kernel
theorem dX8_isSheet_6 : decode cX8_isSheet 6 = .ok (.ireturn, 1) := by decide +kernel
theorem mv_step {M M1 : Mem} {i j t : Nat} (hs : M1 i t = M i t) (hv : ∀ q, q < t → M1 j q = M i q) : ∀ q, q < t + 1 → up M1 j t (M1 i t) j q = M i q := by
  intro q hq
  by_cases e : q = t
  · subst e; rw [up_same]; exact hs
  · rw [up_slot _ e]; exact hv q (by omega)
set_option maxRecDepth 100000 in
set_option maxHeartbeats 4000000 in
theorem c_moveAll_80_82 (l : Launch) (D : va_G) (y : wY) (ad : Nat → Nat) (M : Mem)  : MV l D y ad yX8_moveAll (Cond.code yX8_moveAll cX8_moveAll 4 none) 0 M [.ref (ad 79), .ref (ad 80), .ref (ad 82)] (fun M' => sm (fun b k => b == 82 && decide (k < 244)) M M' ∧ ∀ q, q < 244 → M' 82 q = M 80 q) := by
  refine MV_of (by decide) (Nat.le_of_ble_eq_true rfl) ?_
  intro p e s m args below meth c X hr hlocks
  refine j_lv (lv1 := [(0, .ref (ad 79)), (1, .ref (ad 80)), (2, .ref (ad 82))]) [0, 1, 2] rfl ?_
  refine j_iconst X (v := 0) (by decide) dX8_moveAll_0 ?_
  refine j_istore_n X [(3, .int 0), (0, .ref (ad 79)), (1, .ref (ad 80)), (2, .ref (ad 82))] rfl (by decide) rfl dX8_moveAll_1 ?_
  have loop1 : ∀ (n_1 i_1 : Nat) (M1 : Mem), i_1 ≤ 244 → 244 - i_1 < n_1 → sm (fun b k => b == 82 && decide (k < 244)) M M1 → (∀ q, q < i_1 → M1 82 q = M 80 q) → J p l e (rmN 0) s m args below meth c 0 0 (QV (fun M' => sm (fun b k => b == 82 && decide (k < 244)) M M' ∧ ∀ q, q < 244 → M' 82 q = M 80 q) D y ad M s args below) D y ad (va_A (PL y ad M) s.heap.size) 4 M1 2 [(3, .int (nI i_1)), (0, .ref (ad 79)), (1, .ref (ad 80)), (2, .ref (ad 82))] [] := by
    intro n_1
    induction n_1 with
    | zero => intro i_1 M1 h1 h2; exact absurd h2 (by omega)
    | succ n_1 ih1 =>
      intro i_1 M1 h1i_1 h2i_1 hs1 hvi_1
      refine j_iload_n X 0 rfl rfl dX8_moveAll_2 ?_
      refine j_sipush X (v := 244) (by decide) dX8_moveAll_3 ?_
      refine j_icmp_ge X 21 (by decide) dX8_moveAll_6 (fun c_2 => ?_) (fun c_2 => ?_)
      · have c_2 := (nI_leI (by omega) (by omega)).mp (show nI (244) ≤ nI i_1 from c_2)
        exact j_vret X hr hlocks dX8_moveAll_21 ⟨hs1, fun q hq => hvi_1 q (by omega)⟩
      · have c_2 : i_1 < 244 := by
          rcases Nat.lt_or_ge i_1 (244) with g | g
          · exact g
          · exact absurd (show nI (244) ≤ nI i_1 from nI_le g (by omega)) c_2
        refine j_aload_n X 3 rfl rfl dX8_moveAll_9 ?_
        refine j_iload_n X 0 rfl rfl dX8_moveAll_10 ?_
        refine j_aload_n X 2 rfl rfl dX8_moveAll_11 ?_
        refine j_iload_n X 0 rfl rfl dX8_moveAll_12 ?_
        refine j_iald X (by decide) rfl (show vp_in (nI i_1) 244 from vp_in_nI (by omega) (by decide)) dX8_moveAll_13 ?_
        refine j_eqi (v := M1 80 i_1) (by rw [nI_clamp (by omega)]) ?_
        refine j_iast X (by decide) rfl (show vp_in (nI i_1) 244 from vp_in_nI (by omega) (by decide)) dX8_moveAll_14 ?_
        refine j_eqM (M1 := (up M1 82 i_1 (M1 80 i_1))) (by rw [nI_clamp (by omega)]) ?_
        refine j_iinc X (v := (nI (i_1 + 1))) 0 [(3, .int (nI (i_1 + 1))), (0, .ref (ad 79)), (1, .ref (ad 80)), (2, .ref (ad 82))] rfl (show nI i_1 + Int32.ofInt 1 = _ from nI_1 i_1) (by decide) rfl dX8_moveAll_15 ?_
        refine j_goto X 2 (by decide) dX8_moveAll_18 ?_
        refine j_lv (lv1 := [(3, .int (nI (i_1 + 1))), (0, .ref (ad 79)), (1, .ref (ad 80)), (2, .ref (ad 82))]) [0, 1, 2, 3] rfl ?_
        exact ih1 (i_1 + 1) _ (by omega) (by omega) (sm_up hs1 (by simp; omega)) (mv_step (hs1 80 i_1 (by simp)) hvi_1)
  refine j_lv (lv1 := [(3, .int (nI 0)), (0, .ref (ad 79)), (1, .ref (ad 80)), (2, .ref (ad 82))]) [0, 1, 2, 3] rfl ?_
  exact loop1 (244 + 1) 0 _ (by omega) (by omega) sm_rf (fun q hq => absurd hq (by omega))
set_option maxRecDepth 100000 in
set_option maxHeartbeats 4000000 in
theorem c_moveAll_82_80 (l : Launch) (D : va_G) (y : wY) (ad : Nat → Nat) (M : Mem)  : MV l D y ad yX8_moveAll (Cond.code yX8_moveAll cX8_moveAll 4 none) 0 M [.ref (ad 79), .ref (ad 82), .ref (ad 80)] (fun M' => sm (fun b k => b == 80 && decide (k < 244)) M M' ∧ ∀ q, q < 244 → M' 80 q = M 82 q) := by
  refine MV_of (by decide) (Nat.le_of_ble_eq_true rfl) ?_
  intro p e s m args below meth c X hr hlocks
  refine j_lv (lv1 := [(0, .ref (ad 79)), (1, .ref (ad 82)), (2, .ref (ad 80))]) [0, 1, 2] rfl ?_
  refine j_iconst X (v := 0) (by decide) dX8_moveAll_0 ?_
  refine j_istore_n X [(3, .int 0), (0, .ref (ad 79)), (1, .ref (ad 82)), (2, .ref (ad 80))] rfl (by decide) rfl dX8_moveAll_1 ?_
  have loop1 : ∀ (n_1 i_1 : Nat) (M1 : Mem), i_1 ≤ 244 → 244 - i_1 < n_1 → sm (fun b k => b == 80 && decide (k < 244)) M M1 → (∀ q, q < i_1 → M1 80 q = M 82 q) → J p l e (rmN 0) s m args below meth c 0 0 (QV (fun M' => sm (fun b k => b == 80 && decide (k < 244)) M M' ∧ ∀ q, q < 244 → M' 80 q = M 82 q) D y ad M s args below) D y ad (va_A (PL y ad M) s.heap.size) 4 M1 2 [(3, .int (nI i_1)), (0, .ref (ad 79)), (1, .ref (ad 82)), (2, .ref (ad 80))] [] := by
    intro n_1
    induction n_1 with
    | zero => intro i_1 M1 h1 h2; exact absurd h2 (by omega)
    | succ n_1 ih1 =>
      intro i_1 M1 h1i_1 h2i_1 hs1 hvi_1
      refine j_iload_n X 0 rfl rfl dX8_moveAll_2 ?_
      refine j_sipush X (v := 244) (by decide) dX8_moveAll_3 ?_
      refine j_icmp_ge X 21 (by decide) dX8_moveAll_6 (fun c_2 => ?_) (fun c_2 => ?_)
      · have c_2 := (nI_leI (by omega) (by omega)).mp (show nI (244) ≤ nI i_1 from c_2)
        exact j_vret X hr hlocks dX8_moveAll_21 ⟨hs1, fun q hq => hvi_1 q (by omega)⟩
      · have c_2 : i_1 < 244 := by
          rcases Nat.lt_or_ge i_1 (244) with g | g
          · exact g
          · exact absurd (show nI (244) ≤ nI i_1 from nI_le g (by omega)) c_2
        refine j_aload_n X 3 rfl rfl dX8_moveAll_9 ?_
        refine j_iload_n X 0 rfl rfl dX8_moveAll_10 ?_
        refine j_aload_n X 2 rfl rfl dX8_moveAll_11 ?_
        refine j_iload_n X 0 rfl rfl dX8_moveAll_12 ?_
        refine j_iald X (by decide) rfl (show vp_in (nI i_1) 244 from vp_in_nI (by omega) (by decide)) dX8_moveAll_13 ?_
        refine j_eqi (v := M1 82 i_1) (by rw [nI_clamp (by omega)]) ?_
        refine j_iast X (by decide) rfl (show vp_in (nI i_1) 244 from vp_in_nI (by omega) (by decide)) dX8_moveAll_14 ?_
        refine j_eqM (M1 := (up M1 80 i_1 (M1 82 i_1))) (by rw [nI_clamp (by omega)]) ?_
        refine j_iinc X (v := (nI (i_1 + 1))) 0 [(3, .int (nI (i_1 + 1))), (0, .ref (ad 79)), (1, .ref (ad 82)), (2, .ref (ad 80))] rfl (show nI i_1 + Int32.ofInt 1 = _ from nI_1 i_1) (by decide) rfl dX8_moveAll_15 ?_
        refine j_goto X 2 (by decide) dX8_moveAll_18 ?_
        refine j_lv (lv1 := [(3, .int (nI (i_1 + 1))), (0, .ref (ad 79)), (1, .ref (ad 82)), (2, .ref (ad 80))]) [0, 1, 2, 3] rfl ?_
        exact ih1 (i_1 + 1) _ (by omega) (by omega) (sm_up hs1 (by simp; omega)) (mv_step (hs1 82 i_1 (by simp)) hvi_1)
  refine j_lv (lv1 := [(3, .int (nI 0)), (0, .ref (ad 79)), (1, .ref (ad 82)), (2, .ref (ad 80))]) [0, 1, 2, 3] rfl ?_
  exact loop1 (244 + 1) 0 _ (by omega) (by omega) sm_rf (fun q hq => absurd hq (by omega))
set_option maxRecDepth 100000 in
set_option maxHeartbeats 4000000 in
theorem c_moveAll_80_81 (l : Launch) (D : va_G) (y : wY) (ad : Nat → Nat) (M : Mem)  : MV l D y ad yX8_moveAll (Cond.code yX8_moveAll cX8_moveAll 4 none) 0 M [.ref (ad 79), .ref (ad 80), .ref (ad 81)] (fun M' => sm (fun b k => b == 81 && decide (k < 244)) M M' ∧ ∀ q, q < 244 → M' 81 q = M 80 q) := by
  refine MV_of (by decide) (Nat.le_of_ble_eq_true rfl) ?_
  intro p e s m args below meth c X hr hlocks
  refine j_lv (lv1 := [(0, .ref (ad 79)), (1, .ref (ad 80)), (2, .ref (ad 81))]) [0, 1, 2] rfl ?_
  refine j_iconst X (v := 0) (by decide) dX8_moveAll_0 ?_
  refine j_istore_n X [(3, .int 0), (0, .ref (ad 79)), (1, .ref (ad 80)), (2, .ref (ad 81))] rfl (by decide) rfl dX8_moveAll_1 ?_
  have loop1 : ∀ (n_1 i_1 : Nat) (M1 : Mem), i_1 ≤ 244 → 244 - i_1 < n_1 → sm (fun b k => b == 81 && decide (k < 244)) M M1 → (∀ q, q < i_1 → M1 81 q = M 80 q) → J p l e (rmN 0) s m args below meth c 0 0 (QV (fun M' => sm (fun b k => b == 81 && decide (k < 244)) M M' ∧ ∀ q, q < 244 → M' 81 q = M 80 q) D y ad M s args below) D y ad (va_A (PL y ad M) s.heap.size) 4 M1 2 [(3, .int (nI i_1)), (0, .ref (ad 79)), (1, .ref (ad 80)), (2, .ref (ad 81))] [] := by
    intro n_1
    induction n_1 with
    | zero => intro i_1 M1 h1 h2; exact absurd h2 (by omega)
    | succ n_1 ih1 =>
      intro i_1 M1 h1i_1 h2i_1 hs1 hvi_1
      refine j_iload_n X 0 rfl rfl dX8_moveAll_2 ?_
      refine j_sipush X (v := 244) (by decide) dX8_moveAll_3 ?_
      refine j_icmp_ge X 21 (by decide) dX8_moveAll_6 (fun c_2 => ?_) (fun c_2 => ?_)
      · have c_2 := (nI_leI (by omega) (by omega)).mp (show nI (244) ≤ nI i_1 from c_2)
        exact j_vret X hr hlocks dX8_moveAll_21 ⟨hs1, fun q hq => hvi_1 q (by omega)⟩
      · have c_2 : i_1 < 244 := by
          rcases Nat.lt_or_ge i_1 (244) with g | g
          · exact g
          · exact absurd (show nI (244) ≤ nI i_1 from nI_le g (by omega)) c_2
        refine j_aload_n X 3 rfl rfl dX8_moveAll_9 ?_
        refine j_iload_n X 0 rfl rfl dX8_moveAll_10 ?_
        refine j_aload_n X 2 rfl rfl dX8_moveAll_11 ?_
        refine j_iload_n X 0 rfl rfl dX8_moveAll_12 ?_
        refine j_iald X (by decide) rfl (show vp_in (nI i_1) 244 from vp_in_nI (by omega) (by decide)) dX8_moveAll_13 ?_
        refine j_eqi (v := M1 80 i_1) (by rw [nI_clamp (by omega)]) ?_
        refine j_iast X (by decide) rfl (show vp_in (nI i_1) 244 from vp_in_nI (by omega) (by decide)) dX8_moveAll_14 ?_
        refine j_eqM (M1 := (up M1 81 i_1 (M1 80 i_1))) (by rw [nI_clamp (by omega)]) ?_
        refine j_iinc X (v := (nI (i_1 + 1))) 0 [(3, .int (nI (i_1 + 1))), (0, .ref (ad 79)), (1, .ref (ad 80)), (2, .ref (ad 81))] rfl (show nI i_1 + Int32.ofInt 1 = _ from nI_1 i_1) (by decide) rfl dX8_moveAll_15 ?_
        refine j_goto X 2 (by decide) dX8_moveAll_18 ?_
        refine j_lv (lv1 := [(3, .int (nI (i_1 + 1))), (0, .ref (ad 79)), (1, .ref (ad 80)), (2, .ref (ad 81))]) [0, 1, 2, 3] rfl ?_
        exact ih1 (i_1 + 1) _ (by omega) (by omega) (sm_up hs1 (by simp; omega)) (mv_step (hs1 80 i_1 (by simp)) hvi_1)
  refine j_lv (lv1 := [(3, .int (nI 0)), (0, .ref (ad 79)), (1, .ref (ad 80)), (2, .ref (ad 81))]) [0, 1, 2, 3] rfl ?_
  exact loop1 (244 + 1) 0 _ (by omega) (by omega) sm_rf (fun q hq => absurd hq (by omega))
set_option maxRecDepth 100000 in
set_option maxHeartbeats 4000000 in
theorem c_overSet0 (l : Launch) (D : va_G) (y : wY) (ad : Nat → Nat) (M : Mem) (hm : M 80 2 = 0) : MI l D y ad yX8_overSet (Cond.code yX8_overSet cX8_overSet 3 (some .int)) 0 M [.ref (ad 79)] (fun r M' => 0 = r ∧ M = M') := by
  refine MI_of (by decide) (Nat.le_of_ble_eq_true rfl) ?_
  intro p e s m args below meth c X hr hlocks
  refine j_lv (lv1 := [(0, .ref (ad 79))]) [0] rfl ?_
  refine j_iconst X (v := 0) (by decide) dX8_overSet_0 ?_
  refine j_istore_n X [(1, .int 0), (0, .ref (ad 79))] rfl (by decide) rfl dX8_overSet_1 ?_
  refine j_iconst X (v := 0) (by decide) dX8_overSet_2 ?_
  refine j_istore_n X [(2, .int 0), (1, .int 0), (0, .ref (ad 79))] rfl (by decide) rfl dX8_overSet_3 ?_
  refine j_iload_n X 0 rfl rfl dX8_overSet_4 ?_
  refine j_aload_n X 2 rfl rfl dX8_overSet_5 ?_
  refine j_get X (by decide) (wE_8 _ rfl) rfl awF8 0 (by decide) aw_92 rfl (v := .ref (ad 80)) rfl dX8_overSet_6 ?_
  refine j_iconst X (v := 2) (by decide) dX8_overSet_9 ?_
  refine j_iald X (by decide) rfl (by unfold vp_in; decide) dX8_overSet_10 ?_
  refine j_eqi (v := 0) hm ?_
  refine j_icmp_ge X 31 (by decide) dX8_overSet_11 (fun c_1 => ?_) (fun c_1 => False.elim (by revert c_1; decide))
  refine j_iload_n X 1 rfl rfl dX8_overSet_31 ?_
  exact j_iret X hr hlocks dX8_overSet_32 ⟨rfl, rfl⟩
set_option maxRecDepth 100000 in
set_option maxHeartbeats 4000000 in
theorem c_edgesOfAll0 (l : Launch) (D : va_G) (y : wY) (ad : Nat → Nat) (M : Mem) (hm : M 80 2 = 0) : MI l D y ad yX8_edgesOfAll (Cond.code yX8_edgesOfAll cX8_edgesOfAll 3 (some .int)) 0 M [.ref (ad 79)] (fun r M' => 0 = r ∧ M = M') := by
  refine MI_of (by decide) (Nat.le_of_ble_eq_true rfl) ?_
  intro p e s m args below meth c X hr hlocks
  refine j_lv (lv1 := [(0, .ref (ad 79))]) [0] rfl ?_
  refine j_iconst X (v := 0) (by decide) dX8_edgesOfAll_0 ?_
  refine j_istore_n X [(1, .int 0), (0, .ref (ad 79))] rfl (by decide) rfl dX8_edgesOfAll_1 ?_
  refine j_iconst X (v := 0) (by decide) dX8_edgesOfAll_2 ?_
  refine j_istore_n X [(2, .int 0), (1, .int 0), (0, .ref (ad 79))] rfl (by decide) rfl dX8_edgesOfAll_3 ?_
  refine j_iload_n X 0 rfl rfl dX8_edgesOfAll_4 ?_
  refine j_aload_n X 2 rfl rfl dX8_edgesOfAll_5 ?_
  refine j_get X (by decide) (wE_8 _ rfl) rfl awF8 0 (by decide) aw_92 rfl (v := .ref (ad 80)) rfl dX8_edgesOfAll_6 ?_
  refine j_iconst X (v := 2) (by decide) dX8_edgesOfAll_9 ?_
  refine j_iald X (by decide) rfl (by unfold vp_in; decide) dX8_edgesOfAll_10 ?_
  refine j_eqi (v := 0) hm ?_
  refine j_icmp_ge X 29 (by decide) dX8_edgesOfAll_11 (fun c_1 => ?_) (fun c_1 => False.elim (by revert c_1; decide))
  refine j_iload_n X 1 rfl rfl dX8_edgesOfAll_29 ?_
  exact j_iret X hr hlocks dX8_edgesOfAll_30 ⟨rfl, rfl⟩
set_option maxRecDepth 100000 in
set_option maxHeartbeats 4000000 in
theorem c_bits0 (l : Launch) (D : va_G) (y : wY) (ad : Nat → Nat) (M : Mem)  : MI l D y ad yX8_bits (Cond.code yX8_bits cX8_bits 3 (some .int)) 0 M [.int 0] (fun r M' => 0 = r ∧ M = M') := by
  refine MI_of (by decide) (Nat.le_of_ble_eq_true rfl) ?_
  intro p e s m args below meth c X hr hlocks
  refine j_lv (lv1 := [(0, .int 0)]) [0] rfl ?_
  refine j_iconst X (v := 0) (by decide) dX8_bits_0 ?_
  refine j_istore_n X [(1, .int 0), (0, .int 0)] rfl (by decide) rfl dX8_bits_1 ?_
  refine j_iload_n X 1 rfl rfl dX8_bits_2 ?_
  refine j_istore_n X [(2, .int 0), (1, .int 0), (0, .int 0)] rfl (by decide) rfl dX8_bits_3 ?_
  refine j_iload_n X 0 rfl rfl dX8_bits_4 ?_
  refine j_if_eq X 20 (by decide) dX8_bits_5 (fun c_1 => ?_) (fun c_1 => False.elim (by revert c_1; decide))
  refine j_iload_n X 1 rfl rfl dX8_bits_20 ?_
  exact j_iret X hr hlocks dX8_bits_21 ⟨rfl, rfl⟩
set_option maxRecDepth 100000 in
set_option maxHeartbeats 4000000 in
theorem c_grindsAll0 (l : Launch) (D : va_G) (y : wY) (ad : Nat → Nat) (M : Mem) (hm : M 80 2 = 0) : MV l D y ad yX8_grindsAll (Cond.code yX8_grindsAll cX8_grindsAll 2 none) 0 M [.ref (ad 79)] (fun M' => M = M') := by
  refine MV_of (by decide) (Nat.le_of_ble_eq_true rfl) ?_
  intro p e s m args below meth c X hr hlocks
  refine j_lv (lv1 := [(0, .ref (ad 79))]) [0] rfl ?_
  refine j_iconst X (v := 0) (by decide) dX8_grindsAll_0 ?_
  refine j_istore_n X [(1, .int 0), (0, .ref (ad 79))] rfl (by decide) rfl dX8_grindsAll_1 ?_
  refine j_iload_n X 0 rfl rfl dX8_grindsAll_2 ?_
  refine j_aload_n X 1 rfl rfl dX8_grindsAll_3 ?_
  refine j_get X (by decide) (wE_8 _ rfl) rfl awF8 0 (by decide) aw_92 rfl (v := .ref (ad 80)) rfl dX8_grindsAll_4 ?_
  refine j_iconst X (v := 2) (by decide) dX8_grindsAll_7 ?_
  refine j_iald X (by decide) rfl (by unfold vp_in; decide) dX8_grindsAll_8 ?_
  refine j_eqi (v := 0) hm ?_
  refine j_icmp_ge X 88 (by decide) dX8_grindsAll_9 (fun c_1 => ?_) (fun c_1 => False.elim (by revert c_1; decide))
  exact j_vret X hr hlocks dX8_grindsAll_88 rfl
set_option maxRecDepth 100000 in
set_option maxHeartbeats 4000000 in
theorem c_oneDay0_0 (l : Launch) (D : va_G) (y : wY) (ad : Nat → Nat) (M : Mem) (hm : M 80 2 = 0) : MV l D y ad yX8_oneDay (Cond.code yX8_oneDay cX8_oneDay 3 none) 1 M [.ref (ad 79), .int 0] (fun M' => sm (fun b k => b == 80 && (k == 7 || k == 0)) M M') := by
  refine MV_of (by decide) (Nat.le_of_ble_eq_true rfl) ?_
  intro p e s m args below meth c X hr hlocks
  refine j_lv (lv1 := [(0, .ref (ad 79)), (1, .int 0)]) [0, 1] rfl ?_
  refine j_iload_n X 1 rfl rfl dX8_oneDay_0 ?_
  refine j_if_eq X 8 (by decide) dX8_oneDay_1 (fun c_1 => ?_) (fun c_1 => False.elim (by revert c_1; decide))
  refine j_iconst X (v := 0) (by decide) dX8_oneDay_8 ?_
  refine j_istore_n X [(2, .int 0), (0, .ref (ad 79)), (1, .int 0)] rfl (by decide) rfl dX8_oneDay_9 ?_
  refine j_iload_n X 0 rfl rfl dX8_oneDay_10 ?_
  refine j_aload_n X 1 rfl rfl dX8_oneDay_11 ?_
  refine j_get X (by decide) (wE_8 _ rfl) rfl awF8 0 (by decide) aw_92 rfl (v := .ref (ad 80)) rfl dX8_oneDay_12 ?_
  refine j_iconst X (v := 2) (by decide) dX8_oneDay_15 ?_
  refine j_iald X (by decide) rfl (by unfold vp_in; decide) dX8_oneDay_16 ?_
  refine j_eqi (v := 0) hm ?_
  refine j_icmp_ge X 39 (by decide) dX8_oneDay_17 (fun c_2 => ?_) (fun c_2 => False.elim (by revert c_2; decide))
  refine j_aload_n X 1 rfl rfl dX8_oneDay_39 ?_
  refine j_get X (by decide) (wE_8 _ rfl) rfl awF8 0 (by decide) aw_92 rfl (v := .ref (ad 80)) rfl dX8_oneDay_40 ?_
  refine j_bipush X (v := 7) (by decide) dX8_oneDay_43 ?_
  refine j_aload_n X 1 rfl rfl dX8_oneDay_45 ?_
  refine j_get X (by decide) (wE_8 _ rfl) rfl awF8 0 (by decide) aw_92 rfl (v := .ref (ad 80)) rfl dX8_oneDay_46 ?_
  refine j_bipush X (v := 7) (by decide) dX8_oneDay_49 ?_
  refine j_iald X (by decide) rfl (by unfold vp_in; decide) dX8_oneDay_51 ?_
  refine j_eqi (v := M 80 7) rfl ?_
  refine j_aload_n X 1 rfl rfl dX8_oneDay_52 ?_
  refine j_get X (by decide) (wE_8 _ rfl) rfl awF8 0 (by decide) aw_92 rfl (v := .ref (ad 80)) rfl dX8_oneDay_53 ?_
  refine j_bipush X (v := 8) (by decide) dX8_oneDay_56 ?_
  refine j_iald X (by decide) rfl (by unfold vp_in; decide) dX8_oneDay_58 ?_
  refine j_eqi (v := M 80 8) rfl ?_
  refine j_iadd X dX8_oneDay_59 ?_
  refine j_bipush X (v := 10) (by decide) dX8_oneDay_60 ?_
  refine j_irem X (by decide) dX8_oneDay_62 ?_
  refine j_iast X (by decide) rfl (by unfold vp_in; decide) dX8_oneDay_63 ?_
  refine j_eqM (M1 := (up M 80 7 (((M 80 7) + (M 80 8)) - ((M 80 7) + (M 80 8)) / 10 * 10))) rfl ?_
  refine j_aload_n X 1 rfl rfl dX8_oneDay_64 ?_
  refine j_get X (by decide) (wE_8 _ rfl) rfl awF8 0 (by decide) aw_92 rfl (v := .ref (ad 80)) rfl dX8_oneDay_65 ?_
  refine j_iconst X (v := 0) (by decide) dX8_oneDay_68 ?_
  refine j_dup2 X rfl rfl dX8_oneDay_69 ?_
  refine j_iald X (by decide) rfl (by unfold vp_in; decide) dX8_oneDay_70 ?_
  refine j_eqi (v := M 80 0) (by simp [up]) ?_
  refine j_iconst X (v := 1) (by decide) dX8_oneDay_71 ?_
  refine j_iadd X dX8_oneDay_72 ?_
  refine j_iast X (by decide) rfl (by unfold vp_in; decide) dX8_oneDay_73 ?_
  refine j_eqM (M1 := (up (up M 80 7 (((M 80 7) + (M 80 8)) - ((M 80 7) + (M 80 8)) / 10 * 10)) 80 0 ((M 80 0) + 1))) rfl ?_
  exact j_vret X hr hlocks dX8_oneDay_74 (sm_up (sm_up sm_rf rfl) rfl)
set_option maxRecDepth 100000 in
set_option maxHeartbeats 4000000 in
theorem c_oneDay0_1 (l : Launch) (D : va_G) (y : wY) (ad : Nat → Nat) (M : Mem) (hm : M 80 2 = 0) : MV l D y ad yX8_oneDay (Cond.code yX8_oneDay cX8_oneDay 3 none) 1 M [.ref (ad 79), .int 1] (fun M' => sm (fun b k => b == 80 && (k == 7 || k == 0)) M M') := by
  refine MV_of (by decide) (Nat.le_of_ble_eq_true rfl) ?_
  intro p e s m args below meth c X hr hlocks
  refine j_lv (lv1 := [(0, .ref (ad 79)), (1, .int 1)]) [0, 1] rfl ?_
  refine j_iload_n X 1 rfl rfl dX8_oneDay_0 ?_
  refine j_if_eq X 8 (by decide) dX8_oneDay_1 (fun c_1 => False.elim (by revert c_1; decide)) (fun c_1 => ?_)
  refine j_aload_n X 0 rfl rfl dX8_oneDay_4 ?_
  refine j_callVV X (nn := 0) (As := []) (st := []) (ci := 8) (by decide) (wE_8 _ rfl) rfl aw_490 aw_491 (c_grindsAll0 l D y ad M hm) aw_489 aw_492 aw_5 (by decide +kernel) ⟨by decide, by decide⟩ rfl (Nat.le_of_ble_eq_true rfl) ⟨by decide, by decide⟩ dX8_oneDay_5 ?_
  rintro M1_ rfl
  refine j_iconst X (v := 0) (by decide) dX8_oneDay_8 ?_
  refine j_istore_n X [(2, .int 0), (0, .ref (ad 79)), (1, .int 1)] rfl (by decide) rfl dX8_oneDay_9 ?_
  refine j_iload_n X 0 rfl rfl dX8_oneDay_10 ?_
  refine j_aload_n X 1 rfl rfl dX8_oneDay_11 ?_
  refine j_get X (by decide) (wE_8 _ rfl) rfl awF8 0 (by decide) aw_92 rfl (v := .ref (ad 80)) rfl dX8_oneDay_12 ?_
  refine j_iconst X (v := 2) (by decide) dX8_oneDay_15 ?_
  refine j_iald X (by decide) rfl (by unfold vp_in; decide) dX8_oneDay_16 ?_
  refine j_eqi (v := 0) hm ?_
  refine j_icmp_ge X 39 (by decide) dX8_oneDay_17 (fun c_2 => ?_) (fun c_2 => False.elim (by revert c_2; decide))
  refine j_aload_n X 1 rfl rfl dX8_oneDay_39 ?_
  refine j_get X (by decide) (wE_8 _ rfl) rfl awF8 0 (by decide) aw_92 rfl (v := .ref (ad 80)) rfl dX8_oneDay_40 ?_
  refine j_bipush X (v := 7) (by decide) dX8_oneDay_43 ?_
  refine j_aload_n X 1 rfl rfl dX8_oneDay_45 ?_
  refine j_get X (by decide) (wE_8 _ rfl) rfl awF8 0 (by decide) aw_92 rfl (v := .ref (ad 80)) rfl dX8_oneDay_46 ?_
  refine j_bipush X (v := 7) (by decide) dX8_oneDay_49 ?_
  refine j_iald X (by decide) rfl (by unfold vp_in; decide) dX8_oneDay_51 ?_
  refine j_eqi (v := M 80 7) rfl ?_
  refine j_aload_n X 1 rfl rfl dX8_oneDay_52 ?_
  refine j_get X (by decide) (wE_8 _ rfl) rfl awF8 0 (by decide) aw_92 rfl (v := .ref (ad 80)) rfl dX8_oneDay_53 ?_
  refine j_bipush X (v := 8) (by decide) dX8_oneDay_56 ?_
  refine j_iald X (by decide) rfl (by unfold vp_in; decide) dX8_oneDay_58 ?_
  refine j_eqi (v := M 80 8) rfl ?_
  refine j_iadd X dX8_oneDay_59 ?_
  refine j_bipush X (v := 10) (by decide) dX8_oneDay_60 ?_
  refine j_irem X (by decide) dX8_oneDay_62 ?_
  refine j_iast X (by decide) rfl (by unfold vp_in; decide) dX8_oneDay_63 ?_
  refine j_eqM (M1 := (up M 80 7 (((M 80 7) + (M 80 8)) - ((M 80 7) + (M 80 8)) / 10 * 10))) rfl ?_
  refine j_aload_n X 1 rfl rfl dX8_oneDay_64 ?_
  refine j_get X (by decide) (wE_8 _ rfl) rfl awF8 0 (by decide) aw_92 rfl (v := .ref (ad 80)) rfl dX8_oneDay_65 ?_
  refine j_iconst X (v := 0) (by decide) dX8_oneDay_68 ?_
  refine j_dup2 X rfl rfl dX8_oneDay_69 ?_
  refine j_iald X (by decide) rfl (by unfold vp_in; decide) dX8_oneDay_70 ?_
  refine j_eqi (v := M 80 0) (by simp [up]) ?_
  refine j_iconst X (v := 1) (by decide) dX8_oneDay_71 ?_
  refine j_iadd X dX8_oneDay_72 ?_
  refine j_iast X (by decide) rfl (by unfold vp_in; decide) dX8_oneDay_73 ?_
  refine j_eqM (M1 := (up (up M 80 7 (((M 80 7) + (M 80 8)) - ((M 80 7) + (M 80 8)) / 10 * 10)) 80 0 ((M 80 0) + 1))) rfl ?_
  exact j_vret X hr hlocks dX8_oneDay_74 (sm_up (sm_up sm_rf rfl) rfl)
set_option maxRecDepth 100000 in
set_option maxHeartbeats 4000000 in
theorem c_passes0 (l : Launch) (D : va_G) (y : wY) (ad : Nat → Nat) (M : Mem) (N : Nat) (hN : N ≤ 60) (hm : M 80 2 = 0) : MV l D y ad yX8_passes (Cond.code yX8_passes cX8_passes 3 none) 2 M [.ref (ad 79), .int (nI N)] (fun M' => sm (fun b k => b == 80 && (k == 7 || k == 0)) M M') := by
  refine MV_of (by decide) (Nat.le_of_ble_eq_true rfl) ?_
  intro p e s m args below meth c X hr hlocks
  refine j_lv (lv1 := [(0, .ref (ad 79)), (1, .int (nI N))]) [0, 1] rfl ?_
  refine j_iconst X (v := 0) (by decide) dX8_passes_0 ?_
  refine j_istore_n X [(2, .int 0), (0, .ref (ad 79)), (1, .int (nI N))] rfl (by decide) rfl dX8_passes_1 ?_
  have loop1 : ∀ (n_1 i_1 : Nat) (M1 : Mem), i_1 ≤ N → N - i_1 < n_1 → sm (fun b k => b == 80 && (k == 7 || k == 0)) M M1 → J p l e (rmN 2) s m args below meth c 0 0 (QV (fun M' => sm (fun b k => b == 80 && (k == 7 || k == 0)) M M') D y ad M s args below) D y ad (va_A (PL y ad M) s.heap.size) 3 M1 2 [(2, .int (nI i_1)), (0, .ref (ad 79)), (1, .int (nI N))] [] := by
    intro n_1
    induction n_1 with
    | zero => intro i_1 M1 h1 h2; exact absurd h2 (by omega)
    | succ n_1 ih1 =>
      intro i_1 M1 h1i_1 h2i_1 hs1
      refine j_iload_n X 0 rfl rfl dX8_passes_2 ?_
      refine j_iload_n X 2 rfl rfl dX8_passes_3 ?_
      refine j_icmp_ge X 18 (by decide) dX8_passes_4 (fun c_2 => ?_) (fun c_2 => ?_)
      · have c_2 := (nI_leI (by omega) (by omega)).mp (show nI (N) ≤ nI i_1 from c_2)
        exact j_vret X hr hlocks dX8_passes_18 hs1
      · have c_2 : i_1 < N := by
          rcases Nat.lt_or_ge i_1 (N) with g | g
          · exact g
          · exact absurd (show nI (N) ≤ nI i_1 from nI_le g (by omega)) c_2
        refine j_aload_n X 1 rfl rfl dX8_passes_7 ?_
        refine j_iconst X (v := 1) (by decide) dX8_passes_8 ?_
        refine j_callVV X (nn := 1) (As := [.int 1]) (st := []) (ci := 8) (by decide) (wE_8 _ rfl) rfl aw_486 aw_487 (c_oneDay0_1 l D y ad M1 ((hs1 80 2 rfl).trans hm)) aw_485 aw_488 aw_5 (by decide +kernel) ⟨by decide, by decide⟩ rfl (Nat.le_of_ble_eq_true rfl) ⟨by decide, by decide⟩ dX8_passes_9 ?_
        rintro M_4 s_3
        refine j_iinc X (v := (nI (i_1 + 1))) 0 [(2, .int (nI (i_1 + 1))), (0, .ref (ad 79)), (1, .int (nI N))] rfl (show nI i_1 + Int32.ofInt 1 = _ from nI_1 i_1) (by decide) rfl dX8_passes_12 ?_
        refine j_goto X 2 (by decide) dX8_passes_15 ?_
        refine j_lv (lv1 := [(2, .int (nI (i_1 + 1))), (0, .ref (ad 79)), (1, .int (nI N))]) [0, 1, 2] rfl ?_
        exact ih1 (i_1 + 1) _ (by omega) (by omega) (sm_tr hs1 (sm_w s_3 (by intro b k hb; simp only [Bool.or_eq_false_iff, Bool.and_eq_false_iff, beq_eq_false_iff_ne, ne_eq, decide_eq_false_iff_not] at hb ⊢; omega)))
  refine j_lv (lv1 := [(2, .int (nI 0)), (0, .ref (ad 79)), (1, .int (nI N))]) [0, 1, 2] rfl ?_
  exact loop1 (N + 1) 0 _ (by omega) (by omega) sm_rf
set_option maxRecDepth 100000 in
set_option maxHeartbeats 4000000 in
theorem c_overBehind0 (l : Launch) (D : va_G) (y : wY) (ad : Nat → Nat) (M : Mem) (N : Nat) (hN : N ≤ 60) (hm : M 80 2 = 0) : MI l D y ad yX8_overBehind (Cond.code yX8_overBehind cX8_overBehind 3 (some .int)) 3 M [.ref (ad 79), .int (nI N)] (fun r M' => 0 = r ∧ sm (fun b _ => b == 82) M M') := by
  refine MI_of (by decide) (Nat.le_of_ble_eq_true rfl) ?_
  intro p e s m args below meth c X hr hlocks
  refine j_lv (lv1 := [(0, .ref (ad 79)), (1, .int (nI N))]) [0, 1] rfl ?_
  refine j_aload_n X 0 rfl rfl dX8_overBehind_0 ?_
  refine j_aload_n X 0 rfl rfl dX8_overBehind_1 ?_
  refine j_get X (by decide) (wE_8 _ rfl) rfl awF8 0 (by decide) aw_92 rfl (v := .ref (ad 80)) rfl dX8_overBehind_2 ?_
  refine j_aload_n X 0 rfl rfl dX8_overBehind_5 ?_
  refine j_get X (by decide) (wE_8 _ rfl) rfl awF8 2 (by decide) aw_94 rfl (v := .ref (ad 82)) rfl dX8_overBehind_6 ?_
  refine j_callVV X (nn := 2) (As := [.ref (ad 80), .ref (ad 82)]) (st := []) (ci := 8) (by decide) (wE_8 _ rfl) rfl aw_553 aw_554 (c_moveAll_80_82 l D y ad M) aw_552 aw_555 aw_5 (by decide +kernel) ⟨by decide, by decide⟩ rfl (Nat.le_of_ble_eq_true rfl) ⟨by decide, by decide⟩ dX8_overBehind_9 ?_
  rintro M_2 ⟨s_1, s_1_v⟩
  refine j_aload_n X 0 rfl rfl dX8_overBehind_12 ?_
  refine j_iload_n X 1 rfl rfl dX8_overBehind_13 ?_
  refine j_callVV X (nn := 1) (As := [.int (nI N)]) (st := []) (ci := 8) (by decide) (wE_8 _ rfl) rfl aw_482 aw_483 (c_passes0 l D y ad M_2 N (by omega) ((s_1 80 2 rfl).trans hm)) aw_481 aw_484 aw_5 (by decide +kernel) ⟨by decide, by decide⟩ rfl (Nat.le_of_ble_eq_true rfl) ⟨by decide, by decide⟩ dX8_overBehind_14 ?_
  rintro M_4 s_3
  refine j_aload_n X 0 rfl rfl dX8_overBehind_17 ?_
  refine j_callVI X (nn := 0) (As := []) (st := []) (ci := 8) (by decide) (wE_8 _ rfl) rfl aw_506 aw_507 (c_overSet0 l D y ad M_4 ((s_3 80 2 rfl).trans ((s_1 80 2 rfl).trans hm))) aw_505 aw_508 aw_5 (by decide +kernel) ⟨by decide, by decide⟩ rfl (Nat.le_of_ble_eq_true rfl) ⟨by decide, by decide⟩ dX8_overBehind_18 ?_
  rintro r_ M1_ ⟨rfl, rfl⟩
  refine j_istore_n X [(2, .int 0), (0, .ref (ad 79)), (1, .int (nI N))] rfl (by decide) rfl dX8_overBehind_21 ?_
  refine j_aload_n X 1 rfl rfl dX8_overBehind_22 ?_
  refine j_aload_n X 1 rfl rfl dX8_overBehind_23 ?_
  refine j_get X (by decide) (wE_8 _ rfl) rfl awF8 2 (by decide) aw_94 rfl (v := .ref (ad 82)) rfl dX8_overBehind_24 ?_
  refine j_aload_n X 1 rfl rfl dX8_overBehind_27 ?_
  refine j_get X (by decide) (wE_8 _ rfl) rfl awF8 0 (by decide) aw_92 rfl (v := .ref (ad 80)) rfl dX8_overBehind_28 ?_
  refine j_callVV X (nn := 2) (As := [.ref (ad 82), .ref (ad 80)]) (st := []) (ci := 8) (by decide) (wE_8 _ rfl) rfl aw_553 aw_554 (c_moveAll_82_80 l D y ad M_4) aw_552 aw_555 aw_5 (by decide +kernel) ⟨by decide, by decide⟩ rfl (Nat.le_of_ble_eq_true rfl) ⟨by decide, by decide⟩ dX8_overBehind_31 ?_
  rintro M_6 ⟨s_5, s_5_v⟩
  refine j_iload_n X 0 rfl rfl dX8_overBehind_34 ?_
  exact j_iret X hr hlocks dX8_overBehind_35 ⟨rfl, back0 s_1 s_1_v (sm_w s_3 (by intro b k hb; simp only [beq_eq_false_iff_ne, ne_eq] at hb; simp [hb])) (fun q hq => s_3 80 q (by simp; omega)) s_5 s_5_v⟩
set_option maxRecDepth 100000 in
set_option maxHeartbeats 4000000 in
theorem c_X8_isQuarrel0 (l : Launch) (D : va_G) (y : wY) (ad : Nat → Nat) (M : Mem) (hm : M 80 2 = 0) (q : Int32) : MI l D y ad yX8_isQuarrel (Cond.code yX8_isQuarrel cX8_isQuarrel 2 (some .boolean)) 1 M [.ref (ad 79), .int q] (fun r M' => 0 = r ∧ M = M') := by
  refine MI_of (by decide) (Nat.le_of_ble_eq_true rfl) ?_
  intro p e s m args below meth c X hr hlocks
  refine j_lv (lv1 := [(0, .ref (ad 79)), (1, .int q)]) [0, 1] rfl ?_
  refine j_iload_n X 1 rfl rfl dX8_isQuarrel_0 ?_
  refine j_iconst X (v := 0) (by decide) dX8_isQuarrel_1 ?_
  refine j_aload_n X 0 rfl rfl dX8_isQuarrel_2 ?_
  refine j_get X (by decide) (wE_8 _ rfl) rfl awF8 0 (by decide) aw_92 rfl (v := .ref (ad 80)) rfl dX8_isQuarrel_3 ?_
  refine j_iconst X (v := 2) (by decide) dX8_isQuarrel_6 ?_
  refine j_iald X (by decide) rfl (by unfold vp_in; decide) dX8_isQuarrel_7 ?_
  refine j_eqi (v := 0) hm ?_
  refine j_iconst X (v := 1) (by decide) dX8_isQuarrel_8 ?_
  refine j_isub X dX8_isQuarrel_9 ?_
  refine j_eqi (v := (-1)) (by decide) ?_
  refine j_callSI X (nn := 3) (As := [.int q, .int 0, .int (-1)]) (st := []) aw_134 (c_X8_in l D y ad M q 0 (-1) 0 (-1) (by decide) (by decide)) aw_133 aw_135 aw_5 (by decide +kernel) ⟨by decide, by decide⟩ rfl (Nat.le_of_ble_eq_true rfl) ⟨by decide, by decide⟩ dX8_isQuarrel_10 ?_
  rintro r_ M1_ (⟨rfl, rfl, h_1⟩ | ⟨rfl, rfl, h_1⟩)
  · exfalso; omega
  · exact j_zret X hr hlocks (Or.inl rfl) dX8_isQuarrel_13 ⟨rfl, rfl⟩
set_option maxRecDepth 100000 in
set_option maxHeartbeats 4000000 in
theorem c_X8_isArea (l : Launch) (D : va_G) (y : wY) (ad : Nat → Nat) (M : Mem) (v : Int32) : MI l D y ad yX8_isArea (Cond.code yX8_isArea cX8_isArea 1 (some .boolean)) 1 M [.int v] (fun r M' => (1 = r ∧ M = M' ∧ 0 ≤ v.toInt ∧ v.toInt ≤ 9) ∨ (0 = r ∧ M = M' ∧ ¬ (0 ≤ v.toInt ∧ v.toInt ≤ 9))) := by
  refine MI_of (by decide) (Nat.le_of_ble_eq_true rfl) ?_
  intro p e s m args below meth c X hr hlocks
  refine j_lv (lv1 := [(0, .int v)]) [0] rfl ?_
  refine j_iload_n X 0 rfl rfl dX8_isArea_0 ?_
  refine j_iconst X (v := 0) (by decide) dX8_isArea_1 ?_
  refine j_bipush X (v := 9) (by decide) dX8_isArea_2 ?_
  refine j_callSI X (nn := 3) (As := [.int v, .int 0, .int 9]) (st := []) aw_134 (c_X8_in l D y ad M v 0 9 0 9 (by decide) (by decide)) aw_133 aw_135 aw_5 (by decide +kernel) ⟨by decide, by decide⟩ rfl (Nat.le_of_ble_eq_true rfl) ⟨by decide, by decide⟩ dX8_isArea_4 ?_
  rintro r_ M1_ (⟨rfl, rfl, h_1⟩ | ⟨rfl, rfl, h_1⟩)
  · exact j_zret X hr hlocks (Or.inr rfl) dX8_isArea_7 (Or.inl ⟨rfl, rfl, h_1⟩)
  · exact j_zret X hr hlocks (Or.inl rfl) dX8_isArea_7 (Or.inr ⟨rfl, rfl, h_1⟩)
set_option maxRecDepth 100000 in
set_option maxHeartbeats 4000000 in
theorem c_X8_isSheet (l : Launch) (D : va_G) (y : wY) (ad : Nat → Nat) (M : Mem) (v : Int32) : MI l D y ad yX8_isSheet (Cond.code yX8_isSheet cX8_isSheet 1 (some .boolean)) 1 M [.int v] (fun r M' => (1 = r ∧ M = M' ∧ 0 ≤ v.toInt ∧ v.toInt ≤ 3) ∨ (0 = r ∧ M = M' ∧ ¬ (0 ≤ v.toInt ∧ v.toInt ≤ 3))) := by
  refine MI_of (by decide) (Nat.le_of_ble_eq_true rfl) ?_
  intro p e s m args below meth c X hr hlocks
  refine j_lv (lv1 := [(0, .int v)]) [0] rfl ?_
  refine j_iload_n X 0 rfl rfl dX8_isSheet_0 ?_
  refine j_iconst X (v := 0) (by decide) dX8_isSheet_1 ?_
  refine j_iconst X (v := 3) (by decide) dX8_isSheet_2 ?_
  refine j_callSI X (nn := 3) (As := [.int v, .int 0, .int 3]) (st := []) aw_134 (c_X8_in l D y ad M v 0 3 0 3 (by decide) (by decide)) aw_133 aw_135 aw_5 (by decide +kernel) ⟨by decide, by decide⟩ rfl (Nat.le_of_ble_eq_true rfl) ⟨by decide, by decide⟩ dX8_isSheet_3 ?_
  rintro r_ M1_ (⟨rfl, rfl, h_1⟩ | ⟨rfl, rfl, h_1⟩)
  · exact j_zret X hr hlocks (Or.inr rfl) dX8_isSheet_6 (Or.inl ⟨rfl, rfl, h_1⟩)
  · exact j_zret X hr hlocks (Or.inl rfl) dX8_isSheet_6 (Or.inr ⟨rfl, rfl, h_1⟩)
