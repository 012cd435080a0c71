theorem dX0_gainsOf_0 : decode cX0_gainsOf 0 = .ok (.aload_n 1, 1) := by decide +kernel
theorem dX0_gainsOf_1 : decode cX0_gainsOf 1 = .ok (.aload_n 0, 1) := by decide +kernel
theorem dX0_gainsOf_2 : decode cX0_gainsOf 2 = .ok (.getfield 21, 3) := by decide +kernel
theorem dX0_gainsOf_5 : decode cX0_gainsOf 5 = .ok (.aload_n 1, 1) := by decide +kernel
theorem dX0_gainsOf_6 : decode cX0_gainsOf 6 = .ok (.getfield 65, 3) := by decide +kernel
theorem dX0_gainsOf_9 : decode cX0_gainsOf 9 = .ok (.aload_n 1, 1) := by decide +kernel
theorem dX0_gainsOf_10 : decode cX0_gainsOf 10 = .ok (.getfield 87, 3) := by decide +kernel
theorem dX0_gainsOf_13 : decode cX0_gainsOf 13 = .ok (.aload_n 0, 1) := by decide +kernel
theorem dX0_gainsOf_14 : decode cX0_gainsOf 14 = .ok (.getfield 39, 3) := by decide +kernel
theorem dX0_gainsOf_17 : decode cX0_gainsOf 17 = .ok (.bipush 7, 2) := by decide +kernel
theorem dX0_gainsOf_19 : decode cX0_gainsOf 19 = .ok (.irem, 1) := by decide +kernel
theorem dX0_gainsOf_20 : decode cX0_gainsOf 20 = .ok (.invokevirtual 93, 3) := by decide +kernel
theorem dX0_gainsOf_23 : decode cX0_gainsOf 23 = .ok (.aload_n 0, 1) := by decide +kernel
theorem dX0_gainsOf_24 : decode cX0_gainsOf 24 = .ok (.getfield 39, 3) := by decide +kernel
theorem dX0_gainsOf_27 : decode cX0_gainsOf 27 = .ok (.invokevirtual 105, 3) := by decide +kernel
theorem dX0_gainsOf_30 : decode cX0_gainsOf 30 = .ok (.ireturn, 1) := by decide +kernel
theorem dX0_isFree_0 : decode cX0_isFree 0 = .ok (.aload_n 1, 1) := by decide +kernel
theorem dX0_isFree_1 : decode cX0_isFree 1 = .ok (.getfield 108, 3) := by decide +kernel
theorem dX0_isFree_4 : decode cX0_isFree 4 = .ok (.iconst 0, 1) := by decide +kernel
theorem dX0_isFree_5 : decode cX0_isFree 5 = .ok (.aload_n 0, 1) := by decide +kernel
theorem dX0_isFree_6 : decode cX0_isFree 6 = .ok (.getfield 29, 3) := by decide +kernel
theorem dX0_isFree_9 : decode cX0_isFree 9 = .ok (.iconst 1, 1) := by decide +kernel
theorem dX0_isFree_10 : decode cX0_isFree 10 = .ok (.isub, 1) := by decide +kernel
theorem dX0_isFree_11 : decode cX0_isFree 11 = .ok (.invokestatic 111, 3) := by decide +kernel
theorem dX0_isFree_14 : decode cX0_isFree 14 = .ok (.ifCond .eq 18, 3) := by decide +kernel
theorem dX0_isFree_17 : decode cX0_isFree 17 = .ok (.aload_n 0, 1) := by decide +kernel
theorem dX0_isFree_18 : decode cX0_isFree 18 = .ok (.getfield 11, 3) := by decide +kernel
theorem dX0_isFree_21 : decode cX0_isFree 21 = .ok (.aload_n 1, 1) := by decide +kernel
theorem dX0_isFree_22 : decode cX0_isFree 22 = .ok (.getfield 108, 3) := by decide +kernel
theorem dX0_isFree_25 : decode cX0_isFree 25 = .ok (.aaload, 1) := by decide +kernel
theorem dX0_isFree_26 : decode cX0_isFree 26 = .ok (.getfield 61, 3) := by decide +kernel
theorem dX0_isFree_29 : decode cX0_isFree 29 = .ok (.ifCond .eq 7, 3) := by decide +kernel
theorem dX0_isFree_36 : decode cX0_isFree 36 = .ok (.iconst 0, 1) := by decide +kernel
theorem dX0_isFree_37 : decode cX0_isFree 37 = .ok (.ireturn, 1) := by decide +kernel
theorem dX0_isFree_32 : decode cX0_isFree 32 = .ok (.iconst 1, 1) := by decide +kernel
theorem dX0_isFree_33 : decode cX0_isFree 33 = .ok (.goto 4, 3) := by decide +kernel
theorem dX0_grindArea_0 : decode cX0_grindArea 0 = .ok (.iconst 0, 1) := by decide +kernel
theorem dX0_grindArea_1 : decode cX0_grindArea 1 = .ok (.istore_n 1, 1) := by decide +kernel
theorem dX0_grindArea_2 : decode cX0_grindArea 2 = .ok (.iload_n 1, 1) := by decide +kernel
theorem dX0_grindArea_3 : decode cX0_grindArea 3 = .ok (.aload_n 0, 1) := by decide +kernel
theorem dX0_grindArea_4 : decode cX0_grindArea 4 = .ok (.getfield 29, 3) := by decide +kernel
theorem dX0_grindArea_7 : decode cX0_grindArea 7 = .ok (.if_icmp .ge 68, 3) := by decide +kernel
theorem dX0_grindArea_75 : decode cX0_grindArea 75 = .ok (.return_, 1) := by decide +kernel
theorem dX0_grindArea_10 : decode cX0_grindArea 10 = .ok (.aload_n 0, 1) := by decide +kernel
theorem dX0_grindArea_11 : decode cX0_grindArea 11 = .ok (.getfield 11, 3) := by decide +kernel
theorem dX0_grindArea_14 : decode cX0_grindArea 14 = .ok (.iload_n 1, 1) := by decide +kernel
theorem dX0_grindArea_15 : decode cX0_grindArea 15 = .ok (.aaload, 1) := by decide +kernel
theorem dX0_grindArea_16 : decode cX0_grindArea 16 = .ok (.astore_n 2, 1) := by decide +kernel
theorem dX0_grindArea_17 : decode cX0_grindArea 17 = .ok (.aload_n 2, 1) := by decide +kernel
theorem dX0_grindArea_18 : decode cX0_grindArea 18 = .ok (.getfield 58, 3) := by decide +kernel
theorem dX0_grindArea_21 : decode cX0_grindArea 21 = .ok (.aload_n 0, 1) := by decide +kernel
theorem dX0_grindArea_22 : decode cX0_grindArea 22 = .ok (.getfield 36, 3) := by decide +kernel
theorem dX0_grindArea_25 : decode cX0_grindArea 25 = .ok (.if_icmp .ne 44, 3) := by decide +kernel
theorem dX0_grindArea_69 : decode cX0_grindArea 69 = .ok (.iinc 1 1, 3) := by decide +kernel
theorem dX0_grindArea_72 : decode cX0_grindArea 72 = .ok (.goto (-70), 3) := by decide +kernel
theorem dX0_grindArea_28 : decode cX0_grindArea 28 = .ok (.aload_n 2, 1) := by decide +kernel
theorem dX0_grindArea_29 : decode cX0_grindArea 29 = .ok (.getfield 61, 3) := by decide +kernel
theorem dX0_grindArea_32 : decode cX0_grindArea 32 = .ok (.ifCond .ne 37, 3) := by decide +kernel
theorem dX0_grindArea_35 : decode cX0_grindArea 35 = .ok (.aload_n 2, 1) := by decide +kernel
theorem dX0_grindArea_36 : decode cX0_grindArea 36 = .ok (.bipush 99, 2) := by decide +kernel
theorem dX0_grindArea_38 : decode cX0_grindArea 38 = .ok (.aload_n 2, 1) := by decide +kernel
theorem dX0_grindArea_39 : decode cX0_grindArea 39 = .ok (.getfield 65, 3) := by decide +kernel
theorem dX0_grindArea_42 : decode cX0_grindArea 42 = .ok (.aload_n 0, 1) := by decide +kernel
theorem dX0_grindArea_43 : decode cX0_grindArea 43 = .ok (.aload_n 2, 1) := by decide +kernel
theorem dX0_grindArea_44 : decode cX0_grindArea 44 = .ok (.invokevirtual 68, 3) := by decide +kernel
theorem dX0_grindArea_47 : decode cX0_grindArea 47 = .ok (.iadd, 1) := by decide +kernel
theorem dX0_grindArea_48 : decode cX0_grindArea 48 = .ok (.invokestatic 72, 3) := by decide +kernel
theorem dX0_grindArea_51 : decode cX0_grindArea 51 = .ok (.putfield 65, 3) := by decide +kernel
theorem dX0_grindArea_54 : decode cX0_grindArea 54 = .ok (.aload_n 0, 1) := by decide +kernel
theorem dX0_grindArea_55 : decode cX0_grindArea 55 = .ok (.ldc 78, 2) := by decide +kernel
theorem dX0_grindArea_57 : decode cX0_grindArea 57 = .ok (.aload_n 0, 1) := by decide +kernel
theorem dX0_grindArea_58 : decode cX0_grindArea 58 = .ok (.getfield 45, 3) := by decide +kernel
theorem dX0_grindArea_61 : decode cX0_grindArea 61 = .ok (.iconst 3, 1) := by decide +kernel
theorem dX0_grindArea_62 : decode cX0_grindArea 62 = .ok (.iadd, 1) := by decide +kernel
theorem dX0_grindArea_63 : decode cX0_grindArea 63 = .ok (.invokestatic 72, 3) := by decide +kernel
theorem dX0_grindArea_66 : decode cX0_grindArea 66 = .ok (.putfield 45, 3) := by decide +kernel
theorem dX0_endOrDull_0 : decode cX0_endOrDull 0 = .ok (.iconst 0, 1) := by decide +kernel
theorem dX0_endOrDull_1 : decode cX0_endOrDull 1 = .ok (.istore_n 2, 1) := by decide +kernel
theorem dX0_endOrDull_2 : decode cX0_endOrDull 2 = .ok (.iload_n 2, 1) := by decide +kernel
theorem dX0_endOrDull_3 : decode cX0_endOrDull 3 = .ok (.aload_n 0, 1) := by decide +kernel
theorem dX0_endOrDull_4 : decode cX0_endOrDull 4 = .ok (.getfield 29, 3) := by decide +kernel
theorem dX0_endOrDull_7 : decode cX0_endOrDull 7 = .ok (.if_icmp .ge 123, 3) := by decide +kernel
theorem dX0_endOrDull_130 : decode cX0_endOrDull 130 = .ok (.return_, 1) := by decide +kernel
theorem dX0_endOrDull_10 : decode cX0_endOrDull 10 = .ok (.aload_n 0, 1) := by decide +kernel
theorem dX0_endOrDull_11 : decode cX0_endOrDull 11 = .ok (.getfield 11, 3) := by decide +kernel
theorem dX0_endOrDull_14 : decode cX0_endOrDull 14 = .ok (.iload_n 2, 1) := by decide +kernel
theorem dX0_endOrDull_15 : decode cX0_endOrDull 15 = .ok (.aaload, 1) := by decide +kernel
theorem dX0_endOrDull_16 : decode cX0_endOrDull 16 = .ok (.astore_n 3, 1) := by decide +kernel
theorem dX0_endOrDull_17 : decode cX0_endOrDull 17 = .ok (.aload_n 3, 1) := by decide +kernel
theorem dX0_endOrDull_18 : decode cX0_endOrDull 18 = .ok (.getfield 61, 3) := by decide +kernel
theorem dX0_endOrDull_21 : decode cX0_endOrDull 21 = .ok (.ifCond .eq 6, 3) := by decide +kernel
theorem dX0_endOrDull_27 : decode cX0_endOrDull 27 = .ok (.aload_n 3, 1) := by decide +kernel
theorem dX0_endOrDull_28 : decode cX0_endOrDull 28 = .ok (.getfield 65, 3) := by decide +kernel
theorem dX0_endOrDull_31 : decode cX0_endOrDull 31 = .ok (.aload_n 3, 1) := by decide +kernel
theorem dX0_endOrDull_32 : decode cX0_endOrDull 32 = .ok (.invokevirtual 79, 3) := by decide +kernel
theorem dX0_endOrDull_35 : decode cX0_endOrDull 35 = .ok (.if_icmp .lt 19, 3) := by decide +kernel
theorem dX0_endOrDull_54 : decode cX0_endOrDull 54 = .ok (.iload_n 1, 1) := by decide +kernel
theorem dX0_endOrDull_55 : decode cX0_endOrDull 55 = .ok (.ifCond .eq 36, 3) := by decide +kernel
theorem dX0_endOrDull_91 : decode cX0_endOrDull 91 = .ok (.aload_n 3, 1) := by decide +kernel
theorem dX0_endOrDull_92 : decode cX0_endOrDull 92 = .ok (.iconst 0, 1) := by decide +kernel
theorem dX0_endOrDull_93 : decode cX0_endOrDull 93 = .ok (.aload_n 3, 1) := by decide +kernel
theorem dX0_endOrDull_94 : decode cX0_endOrDull 94 = .ok (.getfield 65, 3) := by decide +kernel
theorem dX0_endOrDull_97 : decode cX0_endOrDull 97 = .ok (.aload_n 3, 1) := by decide +kernel
theorem dX0_endOrDull_98 : decode cX0_endOrDull 98 = .ok (.invokevirtual 99, 3) := by decide +kernel
theorem dX0_endOrDull_101 : decode cX0_endOrDull 101 = .ok (.isub, 1) := by decide +kernel
theorem dX0_endOrDull_102 : decode cX0_endOrDull 102 = .ok (.invokestatic 102, 3) := by decide +kernel
theorem dX0_endOrDull_105 : decode cX0_endOrDull 105 = .ok (.putfield 65, 3) := by decide +kernel
theorem dX0_endOrDull_108 : decode cX0_endOrDull 108 = .ok (.aload_n 3, 1) := by decide +kernel
theorem dX0_endOrDull_109 : decode cX0_endOrDull 109 = .ok (.sipush 999, 3) := by decide +kernel
theorem dX0_endOrDull_112 : decode cX0_endOrDull 112 = .ok (.aload_n 3, 1) := by decide +kernel
theorem dX0_endOrDull_113 : decode cX0_endOrDull 113 = .ok (.getfield 87, 3) := by decide +kernel
theorem dX0_endOrDull_116 : decode cX0_endOrDull 116 = .ok (.iconst 1, 1) := by decide +kernel
theorem dX0_endOrDull_117 : decode cX0_endOrDull 117 = .ok (.iadd, 1) := by decide +kernel
theorem dX0_endOrDull_118 : decode cX0_endOrDull 118 = .ok (.invokestatic 72, 3) := by decide +kernel
theorem dX0_endOrDull_121 : decode cX0_endOrDull 121 = .ok (.putfield 87, 3) := by decide +kernel
theorem dX0_endOrDull_124 : decode cX0_endOrDull 124 = .ok (.iinc 2 1, 3) := by decide +kernel
theorem dX0_endOrDull_127 : decode cX0_endOrDull 127 = .ok (.goto (-125), 3) := by decide +kernel
theorem dX0_endOrDull_58 : decode cX0_endOrDull 58 = .ok (.aload_n 0, 1) := by decide +kernel
theorem dX0_endOrDull_59 : decode cX0_endOrDull 59 = .ok (.ldc 78, 2) := by decide +kernel
theorem dX0_endOrDull_61 : decode cX0_endOrDull 61 = .ok (.aload_n 0, 1) := by decide +kernel
theorem dX0_endOrDull_62 : decode cX0_endOrDull 62 = .ok (.getfield 42, 3) := by decide +kernel
theorem dX0_endOrDull_65 : decode cX0_endOrDull 65 = .ok (.aload_n 0, 1) := by decide +kernel
theorem dX0_endOrDull_66 : decode cX0_endOrDull 66 = .ok (.getfield 25, 3) := by decide +kernel
theorem dX0_endOrDull_69 : decode cX0_endOrDull 69 = .ok (.aload_n 3, 1) := by decide +kernel
theorem dX0_endOrDull_70 : decode cX0_endOrDull 70 = .ok (.getfield 65, 3) := by decide +kernel
theorem dX0_endOrDull_73 : decode cX0_endOrDull 73 = .ok (.aload_n 3, 1) := by decide +kernel
theorem dX0_endOrDull_74 : decode cX0_endOrDull 74 = .ok (.getfield 87, 3) := by decide +kernel
theorem dX0_endOrDull_77 : decode cX0_endOrDull 77 = .ok (.aload_n 3, 1) := by decide +kernel
theorem dX0_endOrDull_78 : decode cX0_endOrDull 78 = .ok (.getfield 90, 3) := by decide +kernel
theorem dX0_endOrDull_81 : decode cX0_endOrDull 81 = .ok (.invokevirtual 93, 3) := by decide +kernel
theorem dX0_endOrDull_84 : decode cX0_endOrDull 84 = .ok (.iadd, 1) := by decide +kernel
theorem dX0_endOrDull_85 : decode cX0_endOrDull 85 = .ok (.invokestatic 72, 3) := by decide +kernel
theorem dX0_endOrDull_88 : decode cX0_endOrDull 88 = .ok (.putfield 42, 3) := by decide +kernel
theorem dX0_endOrDull_38 : decode cX0_endOrDull 38 = .ok (.aload_n 0, 1) := by decide +kernel
theorem dX0_endOrDull_39 : decode cX0_endOrDull 39 = .ok (.aload_n 3, 1) := by decide +kernel
theorem dX0_endOrDull_40 : decode cX0_endOrDull 40 = .ok (.invokevirtual 83, 3) := by decide +kernel
theorem dX0_endOrDull_43 : decode cX0_endOrDull 43 = .ok (.ifCond .eq 11, 3) := by decide +kernel
theorem dX0_endOrDull_46 : decode cX0_endOrDull 46 = .ok (.aload_n 3, 1) := by decide +kernel
theorem dX0_endOrDull_47 : decode cX0_endOrDull 47 = .ok (.iconst 1, 1) := by decide +kernel
theorem dX0_endOrDull_48 : decode cX0_endOrDull 48 = .ok (.putfield 61, 3) := by decide +kernel
theorem dX0_endOrDull_51 : decode cX0_endOrDull 51 = .ok (.goto 73, 3) := by decide +kernel
theorem dX0_endOrDull_24 : decode cX0_endOrDull 24 = .ok (.goto 100, 3) := by decide +kernel
theorem dX0_restDay_0 : decode cX0_restDay 0 = .ok (.aload_n 0, 1) := by decide +kernel
theorem dX0_restDay_1 : decode cX0_restDay 1 = .ok (.iload_n 1, 1) := by decide +kernel
theorem dX0_restDay_2 : decode cX0_restDay 2 = .ok (.invokevirtual 55, 3) := by decide +kernel
theorem dX0_restDay_5 : decode cX0_restDay 5 = .ok (.aload_n 0, 1) := by decide +kernel
theorem dX0_restDay_6 : decode cX0_restDay 6 = .ok (.aload_n 0, 1) := by decide +kernel
theorem dX0_restDay_7 : decode cX0_restDay 7 = .ok (.getfield 36, 3) := by decide +kernel
theorem dX0_restDay_10 : decode cX0_restDay 10 = .ok (.aload_n 0, 1) := by decide +kernel
theorem dX0_restDay_11 : decode cX0_restDay 11 = .ok (.getfield 17, 3) := by decide +kernel
theorem dX0_restDay_14 : decode cX0_restDay 14 = .ok (.iadd, 1) := by decide +kernel
theorem dX0_restDay_15 : decode cX0_restDay 15 = .ok (.bipush 10, 2) := by decide +kernel
theorem dX0_restDay_17 : decode cX0_restDay 17 = .ok (.irem, 1) := by decide +kernel
theorem dX0_restDay_18 : decode cX0_restDay 18 = .ok (.putfield 36, 3) := by decide +kernel
theorem dX0_restDay_21 : decode cX0_restDay 21 = .ok (.aload_n 0, 1) := by decide +kernel
theorem dX0_restDay_22 : decode cX0_restDay 22 = .ok (.dup, 1) := by decide +kernel
theorem dX0_restDay_23 : decode cX0_restDay 23 = .ok (.getfield 39, 3) := by decide +kernel
theorem dX0_restDay_26 : decode cX0_restDay 26 = .ok (.iconst 1, 1) := by decide +kernel
theorem dX0_restDay_27 : decode cX0_restDay 27 = .ok (.iadd, 1) := by decide +kernel
theorem dX0_restDay_28 : decode cX0_restDay 28 = .ok (.putfield 39, 3) := by decide +kernel
theorem dX0_restDay_31 : decode cX0_restDay 31 = .ok (.return_, 1) := by decide +kernel
theorem dX0_passDay_0 : decode cX0_passDay 0 = .ok (.aload_n 0, 1) := by decide +kernel
theorem dX0_passDay_1 : decode cX0_passDay 1 = .ok (.invokevirtual 48, 3) := by decide +kernel
theorem dX0_passDay_4 : decode cX0_passDay 4 = .ok (.aload_n 0, 1) := by decide +kernel
theorem dX0_passDay_5 : decode cX0_passDay 5 = .ok (.iload_n 1, 1) := by decide +kernel
theorem dX0_passDay_6 : decode cX0_passDay 6 = .ok (.invokevirtual 51, 3) := by decide +kernel
theorem dX0_passDay_9 : decode cX0_passDay 9 = .ok (.return_, 1) := by decide +kernel
/-- of the ones from cell b on: ENDED stays, or becomes 1 -/
def sme (b : Nat) (M M1 : Mem) : Prop := ∀ q : Nat, q < 9 → M1 (b + q) 6 = M (b + q) 6 ∨ M1 (b + q) 6 = 1
theorem sme_rf {b : Nat} {M : Mem} : sme b M M := fun _ _ => Or.inl rfl
theorem sme_keep {b : Nat} {M M1 M2 : Mem} {P : Nat → Nat → Bool} (h : sme b M M1) (hs : sm P M1 M2) (hP : ∀ q, q < 9 → P (b + q) 6 = false) : sme b M M2 := fun q hq => by rw [hs (b + q) 6 (hP q hq)]; exact h q hq
theorem sme_tr {b : Nat} {M M1 M2 : Mem} (h : sme b M M1) (h2 : sme b M1 M2) : sme b M M2 := fun q hq => by
  rcases h2 q hq with e | e
  · rw [e]; exact h q hq
  · exact Or.inr e
theorem sme_set {b i : Nat} {M M1 : Mem} (h : sme b M M1) : sme b M (up M1 (b + i) 6 1) := fun q hq => by
  by_cases e : q = i
  · subst e; exact Or.inr up_same
  · rw [up_cell (by omega)]; exact h q hq
theorem sme_bool {b : Nat} {M M1 : Mem} (h : sme b M M1) (hB : ∀ q, q < 9 → BoolOK (M (b + q) 6)) : ∀ q, q < 9 → BoolOK (M1 (b + q) 6) := fun q hq => by
  rcases h q hq with e | e
  · rw [e]; exact hB q hq
  · rw [e]; exact Or.inr rfl
set_option maxRecDepth 100000 in
set_option maxHeartbeats 4000000 in
theorem g_gainsOf_12 (l : Launch) (D : va_G) (y : wY) (ad : Nat → Nat) (M : Mem) (z2 : Nat) (hT2 : TextOK M 2 z2) (c0 : Nat) (hc0 : c0 < 93) (hk0 : kd c0 = 1) : MI l D y ad yX0_gainsOf (Cond.code yX0_gainsOf cX0_gainsOf 2 (some .int)) 3 M [.ref (ad 12), .ref (ad c0)] (fun _ M' => sm (fun b _ => b == 6) M M') := by
  refine MI_of (by decide) (Nat.le_of_ble_eq_true rfl) ?_
  intro p e s m args below meth c X hr hlocks
  refine j_lv (lv1 := [(0, .ref (ad 12)), (1, .ref (ad c0))]) [0, 1] rfl ?_
  refine j_aload_n X 1 rfl rfl dX0_gainsOf_0 ?_
  refine j_aload_n X 0 rfl rfl dX0_gainsOf_1 ?_
  refine j_get X (by decide) (wE_0 _ rfl) rfl awF0 0 (by decide) aw_62 rfl (v := .ref (ad 2)) rfl dX0_gainsOf_2 ?_
  refine j_aload_n X 1 rfl rfl dX0_gainsOf_5 ?_
  refine j_getN X hc0 (wE_1 _ hk0) rfl awF1 3 (by decide) (List.mem_of_getElem? (i := 7) rfl) rfl (v := .int (M c0 3)) rfl dX0_gainsOf_6 ?_
  refine j_aload_n X 1 rfl rfl dX0_gainsOf_9 ?_
  refine j_getN X hc0 (wE_1 _ hk0) rfl awF1 5 (by decide) (List.mem_of_getElem? (i := 11) rfl) rfl (v := .int (M c0 5)) rfl dX0_gainsOf_10 ?_
  refine j_aload_n X 0 rfl rfl dX0_gainsOf_13 ?_
  refine j_get X (by decide) (wE_0 _ rfl) rfl awF0 6 (by decide) aw_197 rfl (v := .int (M 12 6)) rfl dX0_gainsOf_14 ?_
  refine j_bipush X (v := 7) (by decide) dX0_gainsOf_17 ?_
  refine j_irem X (by decide) dX0_gainsOf_19 ?_
  refine j_callVNI X (nn := 3) (As := [.int (M c0 3), .int (M c0 5), .int ((M 12 6) - (M 12 6) / 7 * 7)]) (st := [.ref (ad c0)]) (ci := 4) (by decide) (wE_4 _ rfl) rfl aw_198 aw_199 (g_gives_2 l D y ad M z2 hT2 (M c0 3) (M c0 5) ((M 12 6) - (M 12 6) / 7 * 7)) (List.mem_of_getElem? (i := 14) rfl) aw_200 aw_41 (by decide +kernel) ⟨by decide, by decide⟩ rfl (Nat.le_of_ble_eq_true rfl) ⟨by decide, by decide⟩ dX0_gainsOf_20 ?_
  rintro r_2 M_3 s_1
  refine j_aload_n X 0 rfl rfl dX0_gainsOf_23 ?_
  refine j_get X (by decide) (wE_0 _ rfl) rfl awF0 6 (by decide) aw_197 rfl (v := .int (M_3 12 6)) rfl dX0_gainsOf_24 ?_
  refine j_callVNI X (nn := 2) (As := [.int r_2, .int (M_3 12 6)]) (st := []) (ci := 1) hc0 (wE_1 _ hk0) rfl aw_215 aw_216 (g_gains l D y ad M_3 c0 hc0 hk0 r_2 (M_3 12 6)) (List.mem_of_getElem? (i := 15) rfl) aw_217 aw_65 (by decide +kernel) ⟨by decide, by decide⟩ rfl (Nat.le_of_ble_eq_true rfl) ⟨by decide, by decide⟩ dX0_gainsOf_27 ?_
  rintro r_4 M1_ rfl
  exact j_iret X hr hlocks dX0_gainsOf_30 (sm_tr sm_rf (sm_w s_1 (by intro b k hb; first | rfl | exact hb | (simp only [Bool.or_eq_false_iff, Bool.and_eq_false_iff, beq_eq_false_iff_ne, ne_eq, decide_eq_false_iff_not] at hb ⊢; omega))))
set_option maxRecDepth 100000 in
set_option maxHeartbeats 4000000 in
theorem g_gainsOf_49 (l : Launch) (D : va_G) (y : wY) (ad : Nat → Nat) (M : Mem) (z2 : Nat) (hT2 : TextOK M 2 z2) (c0 : Nat) (hc0 : c0 < 93) (hk0 : kd c0 = 1) : MI l D y ad yX0_gainsOf (Cond.code yX0_gainsOf cX0_gainsOf 2 (some .int)) 3 M [.ref (ad 49), .ref (ad c0)] (fun _ M' => sm (fun b _ => b == 6) M M') := by
  refine MI_of (by decide) (Nat.le_of_ble_eq_true rfl) ?_
  intro p e s m args below meth c X hr hlocks
  refine j_lv (lv1 := [(0, .ref (ad 49)), (1, .ref (ad c0))]) [0, 1] rfl ?_
  refine j_aload_n X 1 rfl rfl dX0_gainsOf_0 ?_
  refine j_aload_n X 0 rfl rfl dX0_gainsOf_1 ?_
  refine j_get X (by decide) (wE_0 _ rfl) rfl awF0 0 (by decide) aw_62 rfl (v := .ref (ad 2)) rfl dX0_gainsOf_2 ?_
  refine j_aload_n X 1 rfl rfl dX0_gainsOf_5 ?_
  refine j_getN X hc0 (wE_1 _ hk0) rfl awF1 3 (by decide) (List.mem_of_getElem? (i := 7) rfl) rfl (v := .int (M c0 3)) rfl dX0_gainsOf_6 ?_
  refine j_aload_n X 1 rfl rfl dX0_gainsOf_9 ?_
  refine j_getN X hc0 (wE_1 _ hk0) rfl awF1 5 (by decide) (List.mem_of_getElem? (i := 11) rfl) rfl (v := .int (M c0 5)) rfl dX0_gainsOf_10 ?_
  refine j_aload_n X 0 rfl rfl dX0_gainsOf_13 ?_
  refine j_get X (by decide) (wE_0 _ rfl) rfl awF0 6 (by decide) aw_197 rfl (v := .int (M 49 6)) rfl dX0_gainsOf_14 ?_
  refine j_bipush X (v := 7) (by decide) dX0_gainsOf_17 ?_
  refine j_irem X (by decide) dX0_gainsOf_19 ?_
  refine j_callVNI X (nn := 3) (As := [.int (M c0 3), .int (M c0 5), .int ((M 49 6) - (M 49 6) / 7 * 7)]) (st := [.ref (ad c0)]) (ci := 4) (by decide) (wE_4 _ rfl) rfl aw_198 aw_199 (g_gives_2 l D y ad M z2 hT2 (M c0 3) (M c0 5) ((M 49 6) - (M 49 6) / 7 * 7)) (List.mem_of_getElem? (i := 14) rfl) aw_200 aw_41 (by decide +kernel) ⟨by decide, by decide⟩ rfl (Nat.le_of_ble_eq_true rfl) ⟨by decide, by decide⟩ dX0_gainsOf_20 ?_
  rintro r_2 M_3 s_1
  refine j_aload_n X 0 rfl rfl dX0_gainsOf_23 ?_
  refine j_get X (by decide) (wE_0 _ rfl) rfl awF0 6 (by decide) aw_197 rfl (v := .int (M_3 49 6)) rfl dX0_gainsOf_24 ?_
  refine j_callVNI X (nn := 2) (As := [.int r_2, .int (M_3 49 6)]) (st := []) (ci := 1) hc0 (wE_1 _ hk0) rfl aw_215 aw_216 (g_gains l D y ad M_3 c0 hc0 hk0 r_2 (M_3 49 6)) (List.mem_of_getElem? (i := 15) rfl) aw_217 aw_65 (by decide +kernel) ⟨by decide, by decide⟩ rfl (Nat.le_of_ble_eq_true rfl) ⟨by decide, by decide⟩ dX0_gainsOf_27 ?_
  rintro r_4 M1_ rfl
  exact j_iret X hr hlocks dX0_gainsOf_30 (sm_tr sm_rf (sm_w s_1 (by intro b k hb; first | rfl | exact hb | (simp only [Bool.or_eq_false_iff, Bool.and_eq_false_iff, beq_eq_false_iff_ne, ne_eq, decide_eq_false_iff_not] at hb ⊢; omega))))
set_option maxRecDepth 100000 in
set_option maxHeartbeats 4000000 in
theorem g_isFree_12 (l : Launch) (D : va_G) (y : wY) (ad : Nat → Nat) (M : Mem) (n : Nat) (hn : n ≤ 9) (hm : M 12 3 = nI n) (q : Nat) (hq : q < 9) : MI l D y ad yX0_isFree (Cond.code yX0_isFree cX0_isFree 2 (some .boolean)) 1 M [.ref (ad 12), .ref (ad (14 + q))] (fun r M' => (0 = r ∧ M = M') ∨ (1 = r ∧ M = M')) := by
  refine MI_of (by decide) (Nat.le_of_ble_eq_true rfl) ?_
  intro p e s m args below meth c X hr hlocks
  refine j_lv (lv1 := [(0, .ref (ad 12)), (1, .ref (ad (14 + q)))]) [0, 1] rfl ?_
  refine j_aload_n X 1 rfl rfl dX0_isFree_0 ?_
  refine j_getN X (by omega) (wE_1 _ (kd_one12 (by omega))) rfl awF1 4 (by decide) (List.mem_of_getElem? (i := 9) rfl) rfl (v := .int (M (14 + q) 4)) rfl dX0_isFree_1 ?_
  refine j_iconst X (v := 0) (by decide) dX0_isFree_4 ?_
  refine j_aload_n X 0 rfl rfl dX0_isFree_5 ?_
  refine j_get X (by decide) (wE_0 _ rfl) rfl awF0 3 (by decide) aw_155 rfl (v := .int (M 12 3)) rfl dX0_isFree_6 ?_
  refine j_eqi (v := (nI n)) hm ?_
  refine j_iconst X (v := 1) (by decide) dX0_isFree_9 ?_
  refine j_isub X dX0_isFree_10 ?_
  refine j_callSNI X (nn := 3) (As := [.int (M (14 + q) 4), .int 0, .int ((nI n) - 1)]) (st := []) aw_110 (g_X7_isWithin l D y ad M (M (14 + q) 4) 0 ((nI n) - 1) 0 (((n : Nat) : Int) - 1) (by decide) (nI_m1 (by omega))) (List.mem_of_getElem? (i := 29) rfl) aw_111 aw_2 (by decide +kernel) ⟨by decide, by decide⟩ rfl (Nat.le_of_ble_eq_true rfl) ⟨by decide, by decide⟩ dX0_isFree_11 ?_
  rintro r_ M1_ (⟨rfl, rfl, h_1⟩ | ⟨rfl, rfl, h_1⟩)
  · refine j_if_eq X 32 (by decide) dX0_isFree_14 (fun c_2 => False.elim (by revert c_2; decide)) (fun c_2 => ?_)
    refine j_aload_n X 0 rfl rfl dX0_isFree_17 ?_
    refine j_get X (by decide) (wE_0 _ rfl) rfl awF0 2 (by decide) aw_60 rfl (v := .ref (ad 13)) rfl dX0_isFree_18 ?_
    refine j_aload_n X 1 rfl rfl dX0_isFree_21 ?_
    refine j_getN X (by omega) (wE_1 _ (kd_one12 (by omega))) rfl awF1 4 (by decide) (List.mem_of_getElem? (i := 9) rfl) rfl (v := .int (M (14 + q) 4)) rfl dX0_isFree_22 ?_
    obtain ⟨j_3, hj_3, ej_3⟩ := nI_oft (x := (M (14 + q) 4)) (n := 8) (by omega) (by omega) (by decide)
    refine j_eqi (v := nI j_3) ej_3 ?_
    refine j_aald10 X (by decide) rfl (show vp_in (nI j_3) 9 from vp_in_nI (by omega) (by decide)) dX0_isFree_25 ?_
    refine j_eqr (v := 14 + j_3) (by rw [nI_clamp (by omega)]; exact rf_one12 (by omega)) ?_
    refine j_getN X (by omega) (wE_1 _ (kd_one12 (by omega))) rfl awF1 6 (by decide) (List.mem_of_getElem? (i := 13) rfl) rfl (v := .int (M (14 + j_3) 6)) rfl dX0_isFree_26 ?_
    refine j_if_eq X 36 (by decide) dX0_isFree_29 (fun c_4 => ?_) (fun c_4 => ?_)
    · have qc_4 := ti_eq (n := 0) (by decide) c_4
      refine j_iconst X (v := 0) (by decide) dX0_isFree_36 ?_
      exact j_zret X hr hlocks (Or.inl rfl) dX0_isFree_37 (Or.inl ⟨rfl, rfl⟩)
    · have qc_4 := ti_ne (n := 0) (by decide) c_4
      refine j_iconst X (v := 1) (by decide) dX0_isFree_32 ?_
      refine j_goto X 37 (by decide) dX0_isFree_33 ?_
      exact j_zret X hr hlocks (Or.inr rfl) dX0_isFree_37 (Or.inr ⟨rfl, rfl⟩)
  · refine j_if_eq X 32 (by decide) dX0_isFree_14 (fun c_5 => ?_) (fun c_5 => False.elim (by revert c_5; decide))
    refine j_iconst X (v := 1) (by decide) dX0_isFree_32 ?_
    refine j_goto X 37 (by decide) dX0_isFree_33 ?_
    exact j_zret X hr hlocks (Or.inr rfl) dX0_isFree_37 (Or.inr ⟨rfl, rfl⟩)
set_option maxRecDepth 100000 in
set_option maxHeartbeats 4000000 in
theorem g_grindArea_12 (l : Launch) (D : va_G) (y : wY) (ad : Nat → Nat) (M : Mem) (n : Nat) (hn : n ≤ 9) (hm : M 12 3 = nI n) (z2 z7 : Nat) (hT2 : TextOK M 2 z2) (hT7 : TextOK M 7 z7) : MV l D y ad yX0_grindArea (Cond.code yX0_grindArea cX0_grindArea 3 none) 4 M [.ref (ad 12)] (fun M' => sm (fun b k => b == 6 || b == 11 || (b == 12 && (k == 4 || k == 6 || k == 7 || k == 8)) || (decide (14 ≤ b) && decide (b ≤ 22) && (k == 3 || k == 5))) M M') := by
  refine MV_of (by decide) (Nat.le_of_ble_eq_true rfl) ?_
  intro p e s m args below meth c X hr hlocks
  refine j_lv (lv1 := [(0, .ref (ad 12))]) [0] rfl ?_
  refine j_iconst X (v := 0) (by decide) dX0_grindArea_0 ?_
  refine j_istore_n X [(1, .int 0), (0, .ref (ad 12))] rfl (by decide) rfl dX0_grindArea_1 ?_
  have loop1 : ∀ (n_1 i_1 : Nat) (M1 : Mem), i_1 ≤ n → n - i_1 < n_1 → sm (fun b k => b == 6 || b == 11 || (b == 12 && (k == 4 || k == 6 || k == 7 || k == 8)) || (decide (14 ≤ b) && decide (b ≤ 22) && (k == 3 || k == 5))) M M1 → J p l e (rmN 4) s m args below meth c 0 0 (QV (fun M' => sm (fun b k => b == 6 || b == 11 || (b == 12 && (k == 4 || k == 6 || k == 7 || k == 8)) || (decide (14 ≤ b) && decide (b ≤ 22) && (k == 3 || k == 5))) M M') D y ad M s args below) D y ad (va_A (PL y ad M) s.heap.size) 3 M1 2 [(1, .int (nI i_1)), (0, .ref (ad 12))] [] := by
    intro n_1
    induction n_1 with
    | zero => intro i_1 M1 h1 h2; exact absurd h2 (by omega)
    | succ n_1 ih1 =>
      intro i_1 M1 h1i_1 h2i_1 hs1
      refine j_iload_n X 0 rfl rfl dX0_grindArea_2 ?_
      refine j_aload_n X 1 rfl rfl dX0_grindArea_3 ?_
      refine j_get X (by decide) (wE_0 _ rfl) rfl awF0 3 (by decide) aw_155 rfl (v := .int (M1 12 3)) rfl dX0_grindArea_4 ?_
      refine j_eqi (v := (nI n)) ((hs1 12 3 rfl).trans hm) ?_
      refine j_icmp_ge X 75 (by decide) dX0_grindArea_7 (fun c_2 => ?_) (fun c_2 => ?_)
      · have c_2 := (nI_leI (by omega) (by omega)).mp (show nI (n) ≤ nI i_1 from c_2)
        exact j_vret X hr hlocks dX0_grindArea_75 (sm_tr sm_rf (sm_w hs1 (by intro b k hb; first | rfl | exact hb | (simp only [Bool.or_eq_false_iff, Bool.and_eq_false_iff, beq_eq_false_iff_ne, ne_eq, decide_eq_false_iff_not] at hb ⊢; omega))))
      · have c_2 : i_1 < n := by
          rcases Nat.lt_or_ge i_1 (n) with g | g
          · exact g
          · exact absurd (show nI (n) ≤ nI i_1 from nI_le g (by omega)) c_2
        refine j_aload_n X 1 rfl rfl dX0_grindArea_10 ?_
        refine j_get X (by decide) (wE_0 _ rfl) rfl awF0 2 (by decide) aw_60 rfl (v := .ref (ad 13)) rfl dX0_grindArea_11 ?_
        refine j_iload_n X 0 rfl rfl dX0_grindArea_14 ?_
        refine j_aald10 X (by decide) rfl (show vp_in (nI i_1) 9 from vp_in_nI (by omega) (by decide)) dX0_grindArea_15 ?_
        refine j_eqr (v := 14 + i_1) (by rw [nI_clamp (by omega)]; exact rf_one12 (by omega)) ?_
        refine j_astore_n X [(2, .ref (ad (14 + i_1))), (1, .int (nI i_1)), (0, .ref (ad 12))] rfl (by decide) rfl dX0_grindArea_16 ?_
        refine j_aload_n X 0 rfl rfl dX0_grindArea_17 ?_
        refine j_getN X (by omega) (wE_1 _ (kd_one12 (by omega))) rfl awF1 2 (by decide) (List.mem_of_getElem? (i := 5) rfl) rfl (v := .int (M1 (14 + i_1) 2)) rfl dX0_grindArea_18 ?_
        refine j_aload_n X 2 rfl rfl dX0_grindArea_21 ?_
        refine j_get X (by decide) (wE_0 _ rfl) rfl awF0 4 (by decide) aw_124 rfl (v := .int (M1 12 4)) rfl dX0_grindArea_22 ?_
        refine j_icmp_ne X 69 (by decide) dX0_grindArea_25 (fun c_3 => ?_) (fun c_3 => ?_)
        · refine j_iinc X (v := (nI (i_1 + 1))) 1 [(1, .int (nI (i_1 + 1))), (2, .ref (ad (14 + i_1))), (0, .ref (ad 12))] rfl (show nI i_1 + Int32.ofInt 1 = _ from nI_1 i_1) (by decide) rfl dX0_grindArea_69 ?_
          refine j_goto X 2 (by decide) dX0_grindArea_72 ?_
          refine j_lv (lv1 := [(1, .int (nI (i_1 + 1))), (0, .ref (ad 12))]) [0, 2] rfl ?_
          exact ih1 (i_1 + 1) _ (by omega) (by omega) hs1
        · refine j_aload_n X 0 rfl rfl dX0_grindArea_28 ?_
          refine j_getN X (by omega) (wE_1 _ (kd_one12 (by omega))) rfl awF1 6 (by decide) (List.mem_of_getElem? (i := 13) rfl) rfl (v := .int (M1 (14 + i_1) 6)) rfl dX0_grindArea_29 ?_
          refine j_if_ne X 69 (by decide) dX0_grindArea_32 (fun c_4 => ?_) (fun c_4 => ?_)
          · have qc_4 := ti_ne (n := 0) (by decide) c_4
            refine j_iinc X (v := (nI (i_1 + 1))) 1 [(1, .int (nI (i_1 + 1))), (2, .ref (ad (14 + i_1))), (0, .ref (ad 12))] rfl (show nI i_1 + Int32.ofInt 1 = _ from nI_1 i_1) (by decide) rfl dX0_grindArea_69 ?_
            refine j_goto X 2 (by decide) dX0_grindArea_72 ?_
            refine j_lv (lv1 := [(1, .int (nI (i_1 + 1))), (0, .ref (ad 12))]) [0, 2] rfl ?_
            exact ih1 (i_1 + 1) _ (by omega) (by omega) hs1
          · have qc_4 := ti_eq (n := 0) (by decide) c_4
            refine j_aload_n X 0 rfl rfl dX0_grindArea_35 ?_
            refine j_bipush X (v := 99) (by decide) dX0_grindArea_36 ?_
            refine j_aload_n X 0 rfl rfl dX0_grindArea_38 ?_
            refine j_getN X (by omega) (wE_1 _ (kd_one12 (by omega))) rfl awF1 3 (by decide) (List.mem_of_getElem? (i := 7) rfl) rfl (v := .int (M1 (14 + i_1) 3)) rfl dX0_grindArea_39 ?_
            refine j_aload_n X 2 rfl rfl dX0_grindArea_42 ?_
            refine j_aload_n X 0 rfl rfl dX0_grindArea_43 ?_
            refine j_callVI X (nn := 1) (As := [.ref (ad (14 + i_1))]) (st := [.int (M1 (14 + i_1) 3), .int 99, .ref (ad (14 + i_1))]) (ci := 0) (by decide) (wE_0 _ rfl) rfl aw_194 aw_195 (g_gainsOf_12 l D y ad M1 z2 (TextOK_keep (P := (fun b k => b == 6 || b == 11 || (b == 12 && (k == 4 || k == 6 || k == 7 || k == 8)) || (decide (14 ≤ b) && decide (b ≤ 22) && (k == 3 || k == 5)))) (sm_tr sm_rf (sm_w hs1 (by intro b k hb; first | rfl | exact hb | (simp only [Bool.or_eq_false_iff, Bool.and_eq_false_iff, beq_eq_false_iff_ne, ne_eq, decide_eq_false_iff_not] at hb ⊢; omega)))) (fun _ => rfl) (fun _ => rfl) (fun _ => rfl) (fun _ => rfl) hT2) (14 + i_1) (by omega) (kd_one12 (by omega))) aw_448 aw_196 aw_20 (by decide +kernel) ⟨by decide, by decide⟩ rfl (Nat.le_of_ble_eq_true rfl) ⟨by decide, by decide⟩ dX0_grindArea_44 ?_
            rintro r_6 M_7 s_5
            refine j_iadd X dX0_grindArea_47 ?_
            refine j_mmin X aw_446 aw_202 aw_203 aw_204 (by decide) (Nat.le_of_ble_eq_true rfl) (by decide) (by decide) dX0_grindArea_48 ?_
            refine j_putN X (up M_7 (14 + i_1) 3 (if ((M1 (14 + i_1) 3) + r_6) < 99 then ((M1 (14 + i_1) 3) + r_6) else 99)) up_o (by omega) (wE_1 _ (kd_one12 (by omega))) rfl awF1 3 (by decide) (wP_1_3 _ _ (kd_one12 (by omega))) tyX1 tyX1_ok nmX1 rfl (ty := .int) (by decide +kernel) rfl rfl (Nat.le_of_ble_eq_true rfl) (List.mem_of_getElem? (i := 7) rfl) rfl dX0_grindArea_51 ?_
            refine j_aload_n X 2 rfl rfl dX0_grindArea_54 ?_
            refine j_ldc X (v := 99999) aw_447 dX0_grindArea_55 ?_
            refine j_aload_n X 2 rfl rfl dX0_grindArea_57 ?_
            refine j_get X (by decide) (wE_0 _ rfl) rfl awF0 8 (by decide) aw_126 rfl (v := .int ((up M_7 (14 + i_1) 3 (if ((M1 (14 + i_1) 3) + r_6) < 99 then ((M1 (14 + i_1) 3) + r_6) else 99)) 12 8)) rfl dX0_grindArea_58 ?_
            refine j_eqi (v := M_7 12 8) ((up_cell (by omega)).trans rfl) ?_
            refine j_iconst X (v := 3) (by decide) dX0_grindArea_61 ?_
            refine j_iadd X dX0_grindArea_62 ?_
            refine j_mmin X aw_446 aw_202 aw_203 aw_204 (by decide) (Nat.le_of_ble_eq_true rfl) (by decide) (by decide) dX0_grindArea_63 ?_
            refine j_put X (up (up M_7 (14 + i_1) 3 (if ((M1 (14 + i_1) 3) + r_6) < 99 then ((M1 (14 + i_1) 3) + r_6) else 99)) 12 8 (if ((M_7 12 8) + 3) < 99999 then ((M_7 12 8) + 3) else 99999)) up_o (by decide) (wE_0 _ rfl) rfl awF0 8 (by decide) (wP_0_8 _ _ rfl) tyX0 tyX0_ok nmX0 rfl (ty := .int) (by decide +kernel) rfl rfl (Nat.le_of_ble_eq_true rfl) aw_126 rfl dX0_grindArea_66 ?_
            refine j_iinc X (v := (nI (i_1 + 1))) 1 [(1, .int (nI (i_1 + 1))), (2, .ref (ad (14 + i_1))), (0, .ref (ad 12))] rfl (show nI i_1 + Int32.ofInt 1 = _ from nI_1 i_1) (by decide) rfl dX0_grindArea_69 ?_
            refine j_goto X 2 (by decide) dX0_grindArea_72 ?_
            refine j_lv (lv1 := [(1, .int (nI (i_1 + 1))), (0, .ref (ad 12))]) [0, 2] rfl ?_
            exact ih1 (i_1 + 1) _ (by omega) (by omega) (sm_up (sm_up (sm_tr hs1 (sm_w s_5 (by intro b k hb; first | rfl | exact hb | (simp only [Bool.or_eq_false_iff, Bool.and_eq_false_iff, beq_eq_false_iff_ne, ne_eq, decide_eq_false_iff_not] at hb ⊢; omega)))) (by first | rfl | (simp; done) | (simp; omega) | (simp only [Bool.and_eq_true, Bool.or_eq_true, decide_eq_true_eq, beq_iff_eq]; omega))) rfl)
  refine j_lv (lv1 := [(1, .int (nI 0)), (0, .ref (ad 12))]) [0, 1] rfl ?_
  exact loop1 (n + 1) 0 _ (by omega) (by omega) sm_rf
set_option maxRecDepth 100000 in
set_option maxHeartbeats 4000000 in
theorem g_endOrDull_12 (l : Launch) (D : va_G) (y : wY) (ad : Nat → Nat) (M : Mem) (n : Nat) (hn : n ≤ 9) (hm : M 12 3 = nI n) (z2 z7 : Nat) (hT2 : TextOK M 2 z2) (hT7 : TextOK M 7 z7) (b1 : Int32) : MV l D y ad yX0_endOrDull (Cond.code yX0_endOrDull cX0_endOrDull 4 none) 4 M [.ref (ad 12), .int b1] (fun M' => sm (fun b k => b == 6 || b == 11 || (b == 12 && (k == 4 || k == 6 || k == 7 || k == 8)) || (decide (14 ≤ b) && decide (b ≤ 22) && (k == 3 || k == 5 || k == 6))) M M' ∧ sme 14 M M') := by
  refine MV_of (by decide) (Nat.le_of_ble_eq_true rfl) ?_
  intro p e s m args below meth c X hr hlocks
  refine j_lv (lv1 := [(0, .ref (ad 12)), (1, .int b1)]) [0, 1] rfl ?_
  refine j_iconst X (v := 0) (by decide) dX0_endOrDull_0 ?_
  refine j_istore_n X [(2, .int 0), (0, .ref (ad 12)), (1, .int b1)] rfl (by decide) rfl dX0_endOrDull_1 ?_
  have loop1 : ∀ (n_1 i_1 : Nat) (M1 : Mem), i_1 ≤ n → n - i_1 < n_1 → sm (fun b k => b == 6 || b == 11 || (b == 12 && (k == 4 || k == 6 || k == 7 || k == 8)) || (decide (14 ≤ b) && decide (b ≤ 22) && (k == 3 || k == 5 || k == 6))) M M1 → (sme 14 M M1) → J p l e (rmN 4) s m args below meth c 0 0 (QV (fun M' => sm (fun b k => b == 6 || b == 11 || (b == 12 && (k == 4 || k == 6 || k == 7 || k == 8)) || (decide (14 ≤ b) && decide (b ≤ 22) && (k == 3 || k == 5 || k == 6))) M M' ∧ sme 14 M M') D y ad M s args below) D y ad (va_A (PL y ad M) s.heap.size) 4 M1 2 [(2, .int (nI i_1)), (0, .ref (ad 12)), (1, .int b1)] [] := by
    intro n_1
    induction n_1 with
    | zero => intro i_1 M1 h1 h2; exact absurd h2 (by omega)
    | succ n_1 ih1 =>
      intro i_1 M1 h1i_1 h2i_1 hs1 hvi_1
      refine j_iload_n X 0 rfl rfl dX0_endOrDull_2 ?_
      refine j_aload_n X 1 rfl rfl dX0_endOrDull_3 ?_
      refine j_get X (by decide) (wE_0 _ rfl) rfl awF0 3 (by decide) aw_155 rfl (v := .int (M1 12 3)) rfl dX0_endOrDull_4 ?_
      refine j_eqi (v := (nI n)) ((hs1 12 3 rfl).trans hm) ?_
      refine j_icmp_ge X 130 (by decide) dX0_endOrDull_7 (fun c_2 => ?_) (fun c_2 => ?_)
      · have c_2 := (nI_leI (by omega) (by omega)).mp (show nI (n) ≤ nI i_1 from c_2)
        exact j_vret X hr hlocks dX0_endOrDull_130 ⟨(sm_tr sm_rf (sm_w hs1 (by intro b k hb; first | rfl | exact hb | (simp only [Bool.or_eq_false_iff, Bool.and_eq_false_iff, beq_eq_false_iff_ne, ne_eq, decide_eq_false_iff_not] at hb ⊢; omega)))), hvi_1⟩
      · have c_2 : i_1 < n := by
          rcases Nat.lt_or_ge i_1 (n) with g | g
          · exact g
          · exact absurd (show nI (n) ≤ nI i_1 from nI_le g (by omega)) c_2
        refine j_aload_n X 1 rfl rfl dX0_endOrDull_10 ?_
        refine j_get X (by decide) (wE_0 _ rfl) rfl awF0 2 (by decide) aw_60 rfl (v := .ref (ad 13)) rfl dX0_endOrDull_11 ?_
        refine j_iload_n X 0 rfl rfl dX0_endOrDull_14 ?_
        refine j_aald10 X (by decide) rfl (show vp_in (nI i_1) 9 from vp_in_nI (by omega) (by decide)) dX0_endOrDull_15 ?_
        refine j_eqr (v := 14 + i_1) (by rw [nI_clamp (by omega)]; exact rf_one12 (by omega)) ?_
        refine j_astore_n X [(3, .ref (ad (14 + i_1))), (2, .int (nI i_1)), (0, .ref (ad 12)), (1, .int b1)] rfl (by decide) rfl dX0_endOrDull_16 ?_
        refine j_aload_n X 0 rfl rfl dX0_endOrDull_17 ?_
        refine j_getN X (by omega) (wE_1 _ (kd_one12 (by omega))) rfl awF1 6 (by decide) (List.mem_of_getElem? (i := 13) rfl) rfl (v := .int (M1 (14 + i_1) 6)) rfl dX0_endOrDull_18 ?_
        refine j_if_eq X 27 (by decide) dX0_endOrDull_21 (fun c_3 => ?_) (fun c_3 => ?_)
        · have qc_3 := ti_eq (n := 0) (by decide) c_3
          refine j_aload_n X 0 rfl rfl dX0_endOrDull_27 ?_
          refine j_getN X (by omega) (wE_1 _ (kd_one12 (by omega))) rfl awF1 3 (by decide) (List.mem_of_getElem? (i := 7) rfl) rfl (v := .int (M1 (14 + i_1) 3)) rfl dX0_endOrDull_28 ?_
          refine j_aload_n X 0 rfl rfl dX0_endOrDull_31 ?_
          refine j_callVNI X (nn := 0) (As := []) (st := [.int (M1 (14 + i_1) 3)]) (ci := 1) (by omega) (wE_1 _ (kd_one12 (by omega))) rfl aw_220 aw_221 (g_needs l D y ad M1 (14 + i_1) (by omega) (kd_one12 (by omega))) (List.mem_of_getElem? (i := 28) rfl) aw_222 aw_65 (by decide +kernel) ⟨by decide, by decide⟩ rfl (Nat.le_of_ble_eq_true rfl) ⟨by decide, by decide⟩ dX0_endOrDull_32 ?_
          rintro r_4 M1_ rfl
          refine j_icmp_lt X 54 (by decide) dX0_endOrDull_35 (fun c_5 => ?_) (fun c_5 => ?_)
          · have qc_5 := ti_lt (a := (M1 (14 + i_1) 3).toInt) (b := r_4.toInt) rfl rfl c_5
            refine j_iload_n X 3 rfl rfl dX0_endOrDull_54 ?_
            refine j_if_eq X 91 (by decide) dX0_endOrDull_55 (fun c_6 => ?_) (fun c_6 => ?_)
            · have qc_6 := ti_eq (n := 0) (by decide) c_6
              refine j_aload_n X 0 rfl rfl dX0_endOrDull_91 ?_
              refine j_iconst X (v := 0) (by decide) dX0_endOrDull_92 ?_
              refine j_aload_n X 0 rfl rfl dX0_endOrDull_93 ?_
              refine j_getN X (by omega) (wE_1 _ (kd_one12 (by omega))) rfl awF1 3 (by decide) (List.mem_of_getElem? (i := 7) rfl) rfl (v := .int (M1 (14 + i_1) 3)) rfl dX0_endOrDull_94 ?_
              refine j_aload_n X 0 rfl rfl dX0_endOrDull_97 ?_
              refine j_callVNI X (nn := 0) (As := []) (st := [.int (M1 (14 + i_1) 3), .int 0, .ref (ad (14 + i_1))]) (ci := 1) (by omega) (wE_1 _ (kd_one12 (by omega))) rfl aw_223 aw_224 (g_dulls l D y ad M1 (14 + i_1) (by omega) (kd_one12 (by omega))) (List.mem_of_getElem? (i := 30) rfl) aw_225 aw_65 (by decide +kernel) ⟨by decide, by decide⟩ rfl (Nat.le_of_ble_eq_true rfl) ⟨by decide, by decide⟩ dX0_endOrDull_98 ?_
              rintro r_7 M1_ rfl
              refine j_isub X dX0_endOrDull_101 ?_
              refine j_mmax X aw_457 aw_206 aw_203 aw_207 (by decide) (Nat.le_of_ble_eq_true rfl) (by decide) (by decide) dX0_endOrDull_102 ?_
              refine j_putN X (up M1 (14 + i_1) 3 (if 0 < ((M1 (14 + i_1) 3) - r_7) then ((M1 (14 + i_1) 3) - r_7) else 0)) up_o (by omega) (wE_1 _ (kd_one12 (by omega))) rfl awF1 3 (by decide) (wP_1_3 _ _ (kd_one12 (by omega))) tyX1 tyX1_ok nmX1 rfl (ty := .int) (by decide +kernel) rfl rfl (Nat.le_of_ble_eq_true rfl) (List.mem_of_getElem? (i := 7) rfl) rfl dX0_endOrDull_105 ?_
              refine j_aload_n X 0 rfl rfl dX0_endOrDull_108 ?_
              refine j_sipush X (v := 999) (by decide) dX0_endOrDull_109 ?_
              refine j_aload_n X 0 rfl rfl dX0_endOrDull_112 ?_
              refine j_getN X (by omega) (wE_1 _ (kd_one12 (by omega))) rfl awF1 5 (by decide) (List.mem_of_getElem? (i := 11) rfl) rfl (v := .int ((up M1 (14 + i_1) 3 (if 0 < ((M1 (14 + i_1) 3) - r_7) then ((M1 (14 + i_1) 3) - r_7) else 0)) (14 + i_1) 5)) rfl dX0_endOrDull_113 ?_
              refine j_eqi (v := M1 (14 + i_1) 5) ((up_slot _ (by decide)).trans rfl) ?_
              refine j_iconst X (v := 1) (by decide) dX0_endOrDull_116 ?_
              refine j_iadd X dX0_endOrDull_117 ?_
              refine j_mmin X aw_446 aw_202 aw_203 aw_204 (by decide) (Nat.le_of_ble_eq_true rfl) (by decide) (by decide) dX0_endOrDull_118 ?_
              refine j_putN X (up (up M1 (14 + i_1) 3 (if 0 < ((M1 (14 + i_1) 3) - r_7) then ((M1 (14 + i_1) 3) - r_7) else 0)) (14 + i_1) 5 (if ((M1 (14 + i_1) 5) + 1) < 999 then ((M1 (14 + i_1) 5) + 1) else 999)) up_o (by omega) (wE_1 _ (kd_one12 (by omega))) rfl awF1 5 (by decide) (wP_1_5 _ _ (kd_one12 (by omega))) tyX1 tyX1_ok nmX1 rfl (ty := .int) (by decide +kernel) rfl rfl (Nat.le_of_ble_eq_true rfl) (List.mem_of_getElem? (i := 11) rfl) rfl dX0_endOrDull_121 ?_
              refine j_iinc X (v := (nI (i_1 + 1))) 1 [(2, .int (nI (i_1 + 1))), (3, .ref (ad (14 + i_1))), (0, .ref (ad 12)), (1, .int b1)] rfl (show nI i_1 + Int32.ofInt 1 = _ from nI_1 i_1) (by decide) rfl dX0_endOrDull_124 ?_
              refine j_goto X 2 (by decide) dX0_endOrDull_127 ?_
              refine j_lv (lv1 := [(2, .int (nI (i_1 + 1))), (0, .ref (ad 12)), (1, .int b1)]) [0, 2, 3] rfl ?_
              exact ih1 (i_1 + 1) _ (by omega) (by omega) (sm_up (sm_up hs1 (by first | rfl | (simp; done) | (simp; omega) | (simp only [Bool.and_eq_true, Bool.or_eq_true, decide_eq_true_eq, beq_iff_eq]; omega))) (by first | rfl | (simp; done) | (simp; omega) | (simp only [Bool.and_eq_true, Bool.or_eq_true, decide_eq_true_eq, beq_iff_eq]; omega))) (sme_keep (P := (fun b k => b == 6 || b == 11 || (b == 12 && (k == 4 || k == 6 || k == 7 || k == 8)) || (decide (14 ≤ b) && decide (b ≤ 22) && (k == 3 || k == 5)))) (sme_keep (P := (fun b k => b == 6 || b == 11 || (b == 12 && (k == 4 || k == 6 || k == 7 || k == 8)) || (decide (14 ≤ b) && decide (b ≤ 22) && (k == 3 || k == 5)))) hvi_1 (sm_up sm_rf (by first | rfl | (simp; done) | (simp; omega) | (simp only [Bool.and_eq_true, Bool.or_eq_true, decide_eq_true_eq, beq_iff_eq]; omega))) (fun q hq => by first | rfl | (simp; done) | (simp; omega))) (sm_up sm_rf (by first | rfl | (simp; done) | (simp; omega) | (simp only [Bool.and_eq_true, Bool.or_eq_true, decide_eq_true_eq, beq_iff_eq]; omega))) (fun q hq => by first | rfl | (simp; done) | (simp; omega)))
            · have qc_6 := ti_ne (n := 0) (by decide) c_6
              refine j_aload_n X 2 rfl rfl dX0_endOrDull_58 ?_
              refine j_ldc X (v := 99999) aw_447 dX0_endOrDull_59 ?_
              refine j_aload_n X 2 rfl rfl dX0_endOrDull_61 ?_
              refine j_get X (by decide) (wE_0 _ rfl) rfl awF0 7 (by decide) aw_125 rfl (v := .int (M1 12 7)) rfl dX0_endOrDull_62 ?_
              refine j_aload_n X 2 rfl rfl dX0_endOrDull_65 ?_
              refine j_get X (by decide) (wE_0 _ rfl) rfl awF0 1 (by decide) aw_63 rfl (v := .ref (ad 7)) rfl dX0_endOrDull_66 ?_
              refine j_aload_n X 0 rfl rfl dX0_endOrDull_69 ?_
              refine j_getN X (by omega) (wE_1 _ (kd_one12 (by omega))) rfl awF1 3 (by decide) (List.mem_of_getElem? (i := 7) rfl) rfl (v := .int (M1 (14 + i_1) 3)) rfl dX0_endOrDull_70 ?_
              refine j_aload_n X 0 rfl rfl dX0_endOrDull_73 ?_
              refine j_getN X (by omega) (wE_1 _ (kd_one12 (by omega))) rfl awF1 5 (by decide) (List.mem_of_getElem? (i := 11) rfl) rfl (v := .int (M1 (14 + i_1) 5)) rfl dX0_endOrDull_74 ?_
              refine j_aload_n X 0 rfl rfl dX0_endOrDull_77 ?_
              refine j_getN X (by omega) (wE_1 _ (kd_one12 (by omega))) rfl awF1 1 (by decide) (List.mem_of_getElem? (i := 3) rfl) rfl (v := .int (M1 (14 + i_1) 1)) rfl dX0_endOrDull_78 ?_
              refine j_callVNI X (nn := 3) (As := [.int (M1 (14 + i_1) 3), .int (M1 (14 + i_1) 5), .int (M1 (14 + i_1) 1)]) (st := [.int (M1 12 7), .int 99999, .ref (ad 12)]) (ci := 4) (by decide) (wE_4 _ rfl) rfl aw_198 aw_199 (g_gives_7 l D y ad M1 z7 (TextOK_keep (P := (fun b k => b == 6 || b == 11 || (b == 12 && (k == 4 || k == 6 || k == 7 || k == 8)) || (decide (14 ≤ b) && decide (b ≤ 22) && (k == 3 || k == 5 || k == 6)))) (sm_tr sm_rf (sm_w hs1 (by intro b k hb; first | rfl | exact hb | (simp only [Bool.or_eq_false_iff, Bool.and_eq_false_iff, beq_eq_false_iff_ne, ne_eq, decide_eq_false_iff_not] at hb ⊢; omega)))) (fun _ => rfl) (fun _ => rfl) (fun _ => rfl) (fun _ => rfl) hT7) (M1 (14 + i_1) 3) (M1 (14 + i_1) 5) (M1 (14 + i_1) 1)) (List.mem_of_getElem? (i := 14) rfl) aw_200 aw_41 (by decide +kernel) ⟨by decide, by decide⟩ rfl (Nat.le_of_ble_eq_true rfl) ⟨by decide, by decide⟩ dX0_endOrDull_81 ?_
              rintro r_9 M_10 s_8
              refine j_iadd X dX0_endOrDull_84 ?_
              refine j_mmin X aw_446 aw_202 aw_203 aw_204 (by decide) (Nat.le_of_ble_eq_true rfl) (by decide) (by decide) dX0_endOrDull_85 ?_
              refine j_put X (up M_10 12 7 (if ((M1 12 7) + r_9) < 99999 then ((M1 12 7) + r_9) else 99999)) up_o (by decide) (wE_0 _ rfl) rfl awF0 7 (by decide) (wP_0_7 _ _ rfl) tyX0 tyX0_ok nmX0 rfl (ty := .int) (by decide +kernel) rfl rfl (Nat.le_of_ble_eq_true rfl) aw_125 rfl dX0_endOrDull_88 ?_
              refine j_aload_n X 0 rfl rfl dX0_endOrDull_91 ?_
              refine j_iconst X (v := 0) (by decide) dX0_endOrDull_92 ?_
              refine j_aload_n X 0 rfl rfl dX0_endOrDull_93 ?_
              refine j_getN X (by omega) (wE_1 _ (kd_one12 (by omega))) rfl awF1 3 (by decide) (List.mem_of_getElem? (i := 7) rfl) rfl (v := .int ((up M_10 12 7 (if ((M1 12 7) + r_9) < 99999 then ((M1 12 7) + r_9) else 99999)) (14 + i_1) 3)) rfl dX0_endOrDull_94 ?_
              refine j_eqi (v := M_10 (14 + i_1) 3) ((up_cell (by omega)).trans rfl) ?_
              refine j_aload_n X 0 rfl rfl dX0_endOrDull_97 ?_
              refine j_callVNI X (nn := 0) (As := []) (st := [.int (M_10 (14 + i_1) 3), .int 0, .ref (ad (14 + i_1))]) (ci := 1) (by omega) (wE_1 _ (kd_one12 (by omega))) rfl aw_223 aw_224 (g_dulls l D y ad (up M_10 12 7 (if ((M1 12 7) + r_9) < 99999 then ((M1 12 7) + r_9) else 99999)) (14 + i_1) (by omega) (kd_one12 (by omega))) (List.mem_of_getElem? (i := 30) rfl) aw_225 aw_65 (by decide +kernel) ⟨by decide, by decide⟩ rfl (Nat.le_of_ble_eq_true rfl) ⟨by decide, by decide⟩ dX0_endOrDull_98 ?_
              rintro r_11 M1_ rfl
              refine j_isub X dX0_endOrDull_101 ?_
              refine j_mmax X aw_457 aw_206 aw_203 aw_207 (by decide) (Nat.le_of_ble_eq_true rfl) (by decide) (by decide) dX0_endOrDull_102 ?_
              refine j_putN X (up (up M_10 12 7 (if ((M1 12 7) + r_9) < 99999 then ((M1 12 7) + r_9) else 99999)) (14 + i_1) 3 (if 0 < ((M_10 (14 + i_1) 3) - r_11) then ((M_10 (14 + i_1) 3) - r_11) else 0)) up_o (by omega) (wE_1 _ (kd_one12 (by omega))) rfl awF1 3 (by decide) (wP_1_3 _ _ (kd_one12 (by omega))) tyX1 tyX1_ok nmX1 rfl (ty := .int) (by decide +kernel) rfl rfl (Nat.le_of_ble_eq_true rfl) (List.mem_of_getElem? (i := 7) rfl) rfl dX0_endOrDull_105 ?_
              refine j_aload_n X 0 rfl rfl dX0_endOrDull_108 ?_
              refine j_sipush X (v := 999) (by decide) dX0_endOrDull_109 ?_
              refine j_aload_n X 0 rfl rfl dX0_endOrDull_112 ?_
              refine j_getN X (by omega) (wE_1 _ (kd_one12 (by omega))) rfl awF1 5 (by decide) (List.mem_of_getElem? (i := 11) rfl) rfl (v := .int ((up (up M_10 12 7 (if ((M1 12 7) + r_9) < 99999 then ((M1 12 7) + r_9) else 99999)) (14 + i_1) 3 (if 0 < ((M_10 (14 + i_1) 3) - r_11) then ((M_10 (14 + i_1) 3) - r_11) else 0)) (14 + i_1) 5)) rfl dX0_endOrDull_113 ?_
              refine j_eqi (v := M_10 (14 + i_1) 5) ((up_slot _ (by decide)).trans ((up_cell (by omega)).trans rfl)) ?_
              refine j_iconst X (v := 1) (by decide) dX0_endOrDull_116 ?_
              refine j_iadd X dX0_endOrDull_117 ?_
              refine j_mmin X aw_446 aw_202 aw_203 aw_204 (by decide) (Nat.le_of_ble_eq_true rfl) (by decide) (by decide) dX0_endOrDull_118 ?_
              refine j_putN X (up (up (up M_10 12 7 (if ((M1 12 7) + r_9) < 99999 then ((M1 12 7) + r_9) else 99999)) (14 + i_1) 3 (if 0 < ((M_10 (14 + i_1) 3) - r_11) then ((M_10 (14 + i_1) 3) - r_11) else 0)) (14 + i_1) 5 (if ((M_10 (14 + i_1) 5) + 1) < 999 then ((M_10 (14 + i_1) 5) + 1) else 999)) up_o (by omega) (wE_1 _ (kd_one12 (by omega))) rfl awF1 5 (by decide) (wP_1_5 _ _ (kd_one12 (by omega))) tyX1 tyX1_ok nmX1 rfl (ty := .int) (by decide +kernel) rfl rfl (Nat.le_of_ble_eq_true rfl) (List.mem_of_getElem? (i := 11) rfl) rfl dX0_endOrDull_121 ?_
              refine j_iinc X (v := (nI (i_1 + 1))) 1 [(2, .int (nI (i_1 + 1))), (3, .ref (ad (14 + i_1))), (0, .ref (ad 12)), (1, .int b1)] rfl (show nI i_1 + Int32.ofInt 1 = _ from nI_1 i_1) (by decide) rfl dX0_endOrDull_124 ?_
              refine j_goto X 2 (by decide) dX0_endOrDull_127 ?_
              refine j_lv (lv1 := [(2, .int (nI (i_1 + 1))), (0, .ref (ad 12)), (1, .int b1)]) [0, 2, 3] rfl ?_
              exact ih1 (i_1 + 1) _ (by omega) (by omega) (sm_up (sm_up (sm_up (sm_tr hs1 (sm_w s_8 (by intro b k hb; first | rfl | exact hb | (simp only [Bool.or_eq_false_iff, Bool.and_eq_false_iff, beq_eq_false_iff_ne, ne_eq, decide_eq_false_iff_not] at hb ⊢; omega)))) rfl) (by first | rfl | (simp; done) | (simp; omega) | (simp only [Bool.and_eq_true, Bool.or_eq_true, decide_eq_true_eq, beq_iff_eq]; omega))) (by first | rfl | (simp; done) | (simp; omega) | (simp only [Bool.and_eq_true, Bool.or_eq_true, decide_eq_true_eq, beq_iff_eq]; omega))) (sme_keep (P := (fun b k => b == 6 || b == 11 || (b == 12 && (k == 4 || k == 6 || k == 7 || k == 8)) || (decide (14 ≤ b) && decide (b ≤ 22) && (k == 3 || k == 5)))) (sme_keep (P := (fun b k => b == 6 || b == 11 || (b == 12 && (k == 4 || k == 6 || k == 7 || k == 8)) || (decide (14 ≤ b) && decide (b ≤ 22) && (k == 3 || k == 5)))) (sme_keep (P := (fun b k => b == 6 || b == 11 || (b == 12 && (k == 4 || k == 6 || k == 7 || k == 8)) || (decide (14 ≤ b) && decide (b ≤ 22) && (k == 3 || k == 5)))) (sme_keep hvi_1 s_8 (fun q hq => by first | rfl | (simp; done) | (simp; omega))) (sm_up sm_rf (by first | rfl | (simp; done) | (simp; omega) | (simp only [Bool.and_eq_true, Bool.or_eq_true, decide_eq_true_eq, beq_iff_eq]; omega))) (fun q hq => by first | rfl | (simp; done) | (simp; omega))) (sm_up sm_rf (by first | rfl | (simp; done) | (simp; omega) | (simp only [Bool.and_eq_true, Bool.or_eq_true, decide_eq_true_eq, beq_iff_eq]; omega))) (fun q hq => by first | rfl | (simp; done) | (simp; omega))) (sm_up sm_rf (by first | rfl | (simp; done) | (simp; omega) | (simp only [Bool.and_eq_true, Bool.or_eq_true, decide_eq_true_eq, beq_iff_eq]; omega))) (fun q hq => by first | rfl | (simp; done) | (simp; omega)))
          · have qc_5 := ti_nlt (a := (M1 (14 + i_1) 3).toInt) (b := r_4.toInt) rfl rfl c_5
            refine j_aload_n X 2 rfl rfl dX0_endOrDull_38 ?_
            refine j_aload_n X 0 rfl rfl dX0_endOrDull_39 ?_
            refine j_callVI X (nn := 1) (As := [.ref (ad (14 + i_1))]) (st := []) (ci := 0) (by decide) (wE_0 _ rfl) rfl aw_459 aw_460 (g_isFree_12 l D y ad M1 n (by omega) ((hs1 12 3 rfl).trans hm) i_1 (by omega)) aw_458 aw_461 aw_20 (by decide +kernel) ⟨by decide, by decide⟩ rfl (Nat.le_of_ble_eq_true rfl) ⟨by decide, by decide⟩ dX0_endOrDull_40 ?_
            rintro r_ M1_ (⟨rfl, rfl⟩ | ⟨rfl, rfl⟩)
            · refine j_if_eq X 54 (by decide) dX0_endOrDull_43 (fun c_12 => ?_) (fun c_12 => False.elim (by revert c_12; decide))
              refine j_iload_n X 3 rfl rfl dX0_endOrDull_54 ?_
              refine j_if_eq X 91 (by decide) dX0_endOrDull_55 (fun c_13 => ?_) (fun c_13 => ?_)
              · have qc_13 := ti_eq (n := 0) (by decide) c_13
                refine j_aload_n X 0 rfl rfl dX0_endOrDull_91 ?_
                refine j_iconst X (v := 0) (by decide) dX0_endOrDull_92 ?_
                refine j_aload_n X 0 rfl rfl dX0_endOrDull_93 ?_
                refine j_getN X (by omega) (wE_1 _ (kd_one12 (by omega))) rfl awF1 3 (by decide) (List.mem_of_getElem? (i := 7) rfl) rfl (v := .int (M1 (14 + i_1) 3)) rfl dX0_endOrDull_94 ?_
                refine j_aload_n X 0 rfl rfl dX0_endOrDull_97 ?_
                refine j_callVNI X (nn := 0) (As := []) (st := [.int (M1 (14 + i_1) 3), .int 0, .ref (ad (14 + i_1))]) (ci := 1) (by omega) (wE_1 _ (kd_one12 (by omega))) rfl aw_223 aw_224 (g_dulls l D y ad M1 (14 + i_1) (by omega) (kd_one12 (by omega))) (List.mem_of_getElem? (i := 30) rfl) aw_225 aw_65 (by decide +kernel) ⟨by decide, by decide⟩ rfl (Nat.le_of_ble_eq_true rfl) ⟨by decide, by decide⟩ dX0_endOrDull_98 ?_
                rintro r_14 M1_ rfl
                refine j_isub X dX0_endOrDull_101 ?_
                refine j_mmax X aw_457 aw_206 aw_203 aw_207 (by decide) (Nat.le_of_ble_eq_true rfl) (by decide) (by decide) dX0_endOrDull_102 ?_
                refine j_putN X (up M1 (14 + i_1) 3 (if 0 < ((M1 (14 + i_1) 3) - r_14) then ((M1 (14 + i_1) 3) - r_14) else 0)) up_o (by omega) (wE_1 _ (kd_one12 (by omega))) rfl awF1 3 (by decide) (wP_1_3 _ _ (kd_one12 (by omega))) tyX1 tyX1_ok nmX1 rfl (ty := .int) (by decide +kernel) rfl rfl (Nat.le_of_ble_eq_true rfl) (List.mem_of_getElem? (i := 7) rfl) rfl dX0_endOrDull_105 ?_
                refine j_aload_n X 0 rfl rfl dX0_endOrDull_108 ?_
                refine j_sipush X (v := 999) (by decide) dX0_endOrDull_109 ?_
                refine j_aload_n X 0 rfl rfl dX0_endOrDull_112 ?_
                refine j_getN X (by omega) (wE_1 _ (kd_one12 (by omega))) rfl awF1 5 (by decide) (List.mem_of_getElem? (i := 11) rfl) rfl (v := .int ((up M1 (14 + i_1) 3 (if 0 < ((M1 (14 + i_1) 3) - r_14) then ((M1 (14 + i_1) 3) - r_14) else 0)) (14 + i_1) 5)) rfl dX0_endOrDull_113 ?_
                refine j_eqi (v := M1 (14 + i_1) 5) ((up_slot _ (by decide)).trans rfl) ?_
                refine j_iconst X (v := 1) (by decide) dX0_endOrDull_116 ?_
                refine j_iadd X dX0_endOrDull_117 ?_
                refine j_mmin X aw_446 aw_202 aw_203 aw_204 (by decide) (Nat.le_of_ble_eq_true rfl) (by decide) (by decide) dX0_endOrDull_118 ?_
                refine j_putN X (up (up M1 (14 + i_1) 3 (if 0 < ((M1 (14 + i_1) 3) - r_14) then ((M1 (14 + i_1) 3) - r_14) else 0)) (14 + i_1) 5 (if ((M1 (14 + i_1) 5) + 1) < 999 then ((M1 (14 + i_1) 5) + 1) else 999)) up_o (by omega) (wE_1 _ (kd_one12 (by omega))) rfl awF1 5 (by decide) (wP_1_5 _ _ (kd_one12 (by omega))) tyX1 tyX1_ok nmX1 rfl (ty := .int) (by decide +kernel) rfl rfl (Nat.le_of_ble_eq_true rfl) (List.mem_of_getElem? (i := 11) rfl) rfl dX0_endOrDull_121 ?_
                refine j_iinc X (v := (nI (i_1 + 1))) 1 [(2, .int (nI (i_1 + 1))), (3, .ref (ad (14 + i_1))), (0, .ref (ad 12)), (1, .int b1)] rfl (show nI i_1 + Int32.ofInt 1 = _ from nI_1 i_1) (by decide) rfl dX0_endOrDull_124 ?_
                refine j_goto X 2 (by decide) dX0_endOrDull_127 ?_
                refine j_lv (lv1 := [(2, .int (nI (i_1 + 1))), (0, .ref (ad 12)), (1, .int b1)]) [0, 2, 3] rfl ?_
                exact ih1 (i_1 + 1) _ (by omega) (by omega) (sm_up (sm_up hs1 (by first | rfl | (simp; done) | (simp; omega) | (simp only [Bool.and_eq_true, Bool.or_eq_true, decide_eq_true_eq, beq_iff_eq]; omega))) (by first | rfl | (simp; done) | (simp; omega) | (simp only [Bool.and_eq_true, Bool.or_eq_true, decide_eq_true_eq, beq_iff_eq]; omega))) (sme_keep (P := (fun b k => b == 6 || b == 11 || (b == 12 && (k == 4 || k == 6 || k == 7 || k == 8)) || (decide (14 ≤ b) && decide (b ≤ 22) && (k == 3 || k == 5)))) (sme_keep (P := (fun b k => b == 6 || b == 11 || (b == 12 && (k == 4 || k == 6 || k == 7 || k == 8)) || (decide (14 ≤ b) && decide (b ≤ 22) && (k == 3 || k == 5)))) hvi_1 (sm_up sm_rf (by first | rfl | (simp; done) | (simp; omega) | (simp only [Bool.and_eq_true, Bool.or_eq_true, decide_eq_true_eq, beq_iff_eq]; omega))) (fun q hq => by first | rfl | (simp; done) | (simp; omega))) (sm_up sm_rf (by first | rfl | (simp; done) | (simp; omega) | (simp only [Bool.and_eq_true, Bool.or_eq_true, decide_eq_true_eq, beq_iff_eq]; omega))) (fun q hq => by first | rfl | (simp; done) | (simp; omega)))
              · have qc_13 := ti_ne (n := 0) (by decide) c_13
                refine j_aload_n X 2 rfl rfl dX0_endOrDull_58 ?_
                refine j_ldc X (v := 99999) aw_447 dX0_endOrDull_59 ?_
                refine j_aload_n X 2 rfl rfl dX0_endOrDull_61 ?_
                refine j_get X (by decide) (wE_0 _ rfl) rfl awF0 7 (by decide) aw_125 rfl (v := .int (M1 12 7)) rfl dX0_endOrDull_62 ?_
                refine j_aload_n X 2 rfl rfl dX0_endOrDull_65 ?_
                refine j_get X (by decide) (wE_0 _ rfl) rfl awF0 1 (by decide) aw_63 rfl (v := .ref (ad 7)) rfl dX0_endOrDull_66 ?_
                refine j_aload_n X 0 rfl rfl dX0_endOrDull_69 ?_
                refine j_getN X (by omega) (wE_1 _ (kd_one12 (by omega))) rfl awF1 3 (by decide) (List.mem_of_getElem? (i := 7) rfl) rfl (v := .int (M1 (14 + i_1) 3)) rfl dX0_endOrDull_70 ?_
                refine j_aload_n X 0 rfl rfl dX0_endOrDull_73 ?_
                refine j_getN X (by omega) (wE_1 _ (kd_one12 (by omega))) rfl awF1 5 (by decide) (List.mem_of_getElem? (i := 11) rfl) rfl (v := .int (M1 (14 + i_1) 5)) rfl dX0_endOrDull_74 ?_
                refine j_aload_n X 0 rfl rfl dX0_endOrDull_77 ?_
                refine j_getN X (by omega) (wE_1 _ (kd_one12 (by omega))) rfl awF1 1 (by decide) (List.mem_of_getElem? (i := 3) rfl) rfl (v := .int (M1 (14 + i_1) 1)) rfl dX0_endOrDull_78 ?_
                refine j_callVNI X (nn := 3) (As := [.int (M1 (14 + i_1) 3), .int (M1 (14 + i_1) 5), .int (M1 (14 + i_1) 1)]) (st := [.int (M1 12 7), .int 99999, .ref (ad 12)]) (ci := 4) (by decide) (wE_4 _ rfl) rfl aw_198 aw_199 (g_gives_7 l D y ad M1 z7 (TextOK_keep (P := (fun b k => b == 6 || b == 11 || (b == 12 && (k == 4 || k == 6 || k == 7 || k == 8)) || (decide (14 ≤ b) && decide (b ≤ 22) && (k == 3 || k == 5 || k == 6)))) (sm_tr sm_rf (sm_w hs1 (by intro b k hb; first | rfl | exact hb | (simp only [Bool.or_eq_false_iff, Bool.and_eq_false_iff, beq_eq_false_iff_ne, ne_eq, decide_eq_false_iff_not] at hb ⊢; omega)))) (fun _ => rfl) (fun _ => rfl) (fun _ => rfl) (fun _ => rfl) hT7) (M1 (14 + i_1) 3) (M1 (14 + i_1) 5) (M1 (14 + i_1) 1)) (List.mem_of_getElem? (i := 14) rfl) aw_200 aw_41 (by decide +kernel) ⟨by decide, by decide⟩ rfl (Nat.le_of_ble_eq_true rfl) ⟨by decide, by decide⟩ dX0_endOrDull_81 ?_
                rintro r_16 M_17 s_15
                refine j_iadd X dX0_endOrDull_84 ?_
                refine j_mmin X aw_446 aw_202 aw_203 aw_204 (by decide) (Nat.le_of_ble_eq_true rfl) (by decide) (by decide) dX0_endOrDull_85 ?_
                refine j_put X (up M_17 12 7 (if ((M1 12 7) + r_16) < 99999 then ((M1 12 7) + r_16) else 99999)) up_o (by decide) (wE_0 _ rfl) rfl awF0 7 (by decide) (wP_0_7 _ _ rfl) tyX0 tyX0_ok nmX0 rfl (ty := .int) (by decide +kernel) rfl rfl (Nat.le_of_ble_eq_true rfl) aw_125 rfl dX0_endOrDull_88 ?_
                refine j_aload_n X 0 rfl rfl dX0_endOrDull_91 ?_
                refine j_iconst X (v := 0) (by decide) dX0_endOrDull_92 ?_
                refine j_aload_n X 0 rfl rfl dX0_endOrDull_93 ?_
                refine j_getN X (by omega) (wE_1 _ (kd_one12 (by omega))) rfl awF1 3 (by decide) (List.mem_of_getElem? (i := 7) rfl) rfl (v := .int ((up M_17 12 7 (if ((M1 12 7) + r_16) < 99999 then ((M1 12 7) + r_16) else 99999)) (14 + i_1) 3)) rfl dX0_endOrDull_94 ?_
                refine j_eqi (v := M_17 (14 + i_1) 3) ((up_cell (by omega)).trans rfl) ?_
                refine j_aload_n X 0 rfl rfl dX0_endOrDull_97 ?_
                refine j_callVNI X (nn := 0) (As := []) (st := [.int (M_17 (14 + i_1) 3), .int 0, .ref (ad (14 + i_1))]) (ci := 1) (by omega) (wE_1 _ (kd_one12 (by omega))) rfl aw_223 aw_224 (g_dulls l D y ad (up M_17 12 7 (if ((M1 12 7) + r_16) < 99999 then ((M1 12 7) + r_16) else 99999)) (14 + i_1) (by omega) (kd_one12 (by omega))) (List.mem_of_getElem? (i := 30) rfl) aw_225 aw_65 (by decide +kernel) ⟨by decide, by decide⟩ rfl (Nat.le_of_ble_eq_true rfl) ⟨by decide, by decide⟩ dX0_endOrDull_98 ?_
                rintro r_18 M1_ rfl
                refine j_isub X dX0_endOrDull_101 ?_
                refine j_mmax X aw_457 aw_206 aw_203 aw_207 (by decide) (Nat.le_of_ble_eq_true rfl) (by decide) (by decide) dX0_endOrDull_102 ?_
                refine j_putN X (up (up M_17 12 7 (if ((M1 12 7) + r_16) < 99999 then ((M1 12 7) + r_16) else 99999)) (14 + i_1) 3 (if 0 < ((M_17 (14 + i_1) 3) - r_18) then ((M_17 (14 + i_1) 3) - r_18) else 0)) up_o (by omega) (wE_1 _ (kd_one12 (by omega))) rfl awF1 3 (by decide) (wP_1_3 _ _ (kd_one12 (by omega))) tyX1 tyX1_ok nmX1 rfl (ty := .int) (by decide +kernel) rfl rfl (Nat.le_of_ble_eq_true rfl) (List.mem_of_getElem? (i := 7) rfl) rfl dX0_endOrDull_105 ?_
                refine j_aload_n X 0 rfl rfl dX0_endOrDull_108 ?_
                refine j_sipush X (v := 999) (by decide) dX0_endOrDull_109 ?_
                refine j_aload_n X 0 rfl rfl dX0_endOrDull_112 ?_
                refine j_getN X (by omega) (wE_1 _ (kd_one12 (by omega))) rfl awF1 5 (by decide) (List.mem_of_getElem? (i := 11) rfl) rfl (v := .int ((up (up M_17 12 7 (if ((M1 12 7) + r_16) < 99999 then ((M1 12 7) + r_16) else 99999)) (14 + i_1) 3 (if 0 < ((M_17 (14 + i_1) 3) - r_18) then ((M_17 (14 + i_1) 3) - r_18) else 0)) (14 + i_1) 5)) rfl dX0_endOrDull_113 ?_
                refine j_eqi (v := M_17 (14 + i_1) 5) ((up_slot _ (by decide)).trans ((up_cell (by omega)).trans rfl)) ?_
                refine j_iconst X (v := 1) (by decide) dX0_endOrDull_116 ?_
                refine j_iadd X dX0_endOrDull_117 ?_
                refine j_mmin X aw_446 aw_202 aw_203 aw_204 (by decide) (Nat.le_of_ble_eq_true rfl) (by decide) (by decide) dX0_endOrDull_118 ?_
                refine j_putN X (up (up (up M_17 12 7 (if ((M1 12 7) + r_16) < 99999 then ((M1 12 7) + r_16) else 99999)) (14 + i_1) 3 (if 0 < ((M_17 (14 + i_1) 3) - r_18) then ((M_17 (14 + i_1) 3) - r_18) else 0)) (14 + i_1) 5 (if ((M_17 (14 + i_1) 5) + 1) < 999 then ((M_17 (14 + i_1) 5) + 1) else 999)) up_o (by omega) (wE_1 _ (kd_one12 (by omega))) rfl awF1 5 (by decide) (wP_1_5 _ _ (kd_one12 (by omega))) tyX1 tyX1_ok nmX1 rfl (ty := .int) (by decide +kernel) rfl rfl (Nat.le_of_ble_eq_true rfl) (List.mem_of_getElem? (i := 11) rfl) rfl dX0_endOrDull_121 ?_
                refine j_iinc X (v := (nI (i_1 + 1))) 1 [(2, .int (nI (i_1 + 1))), (3, .ref (ad (14 + i_1))), (0, .ref (ad 12)), (1, .int b1)] rfl (show nI i_1 + Int32.ofInt 1 = _ from nI_1 i_1) (by decide) rfl dX0_endOrDull_124 ?_
                refine j_goto X 2 (by decide) dX0_endOrDull_127 ?_
                refine j_lv (lv1 := [(2, .int (nI (i_1 + 1))), (0, .ref (ad 12)), (1, .int b1)]) [0, 2, 3] rfl ?_
                exact ih1 (i_1 + 1) _ (by omega) (by omega) (sm_up (sm_up (sm_up (sm_tr hs1 (sm_w s_15 (by intro b k hb; first | rfl | exact hb | (simp only [Bool.or_eq_false_iff, Bool.and_eq_false_iff, beq_eq_false_iff_ne, ne_eq, decide_eq_false_iff_not] at hb ⊢; omega)))) rfl) (by first | rfl | (simp; done) | (simp; omega) | (simp only [Bool.and_eq_true, Bool.or_eq_true, decide_eq_true_eq, beq_iff_eq]; omega))) (by first | rfl | (simp; done) | (simp; omega) | (simp only [Bool.and_eq_true, Bool.or_eq_true, decide_eq_true_eq, beq_iff_eq]; omega))) (sme_keep (P := (fun b k => b == 6 || b == 11 || (b == 12 && (k == 4 || k == 6 || k == 7 || k == 8)) || (decide (14 ≤ b) && decide (b ≤ 22) && (k == 3 || k == 5)))) (sme_keep (P := (fun b k => b == 6 || b == 11 || (b == 12 && (k == 4 || k == 6 || k == 7 || k == 8)) || (decide (14 ≤ b) && decide (b ≤ 22) && (k == 3 || k == 5)))) (sme_keep (P := (fun b k => b == 6 || b == 11 || (b == 12 && (k == 4 || k == 6 || k == 7 || k == 8)) || (decide (14 ≤ b) && decide (b ≤ 22) && (k == 3 || k == 5)))) (sme_keep hvi_1 s_15 (fun q hq => by first | rfl | (simp; done) | (simp; omega))) (sm_up sm_rf (by first | rfl | (simp; done) | (simp; omega) | (simp only [Bool.and_eq_true, Bool.or_eq_true, decide_eq_true_eq, beq_iff_eq]; omega))) (fun q hq => by first | rfl | (simp; done) | (simp; omega))) (sm_up sm_rf (by first | rfl | (simp; done) | (simp; omega) | (simp only [Bool.and_eq_true, Bool.or_eq_true, decide_eq_true_eq, beq_iff_eq]; omega))) (fun q hq => by first | rfl | (simp; done) | (simp; omega))) (sm_up sm_rf (by first | rfl | (simp; done) | (simp; omega) | (simp only [Bool.and_eq_true, Bool.or_eq_true, decide_eq_true_eq, beq_iff_eq]; omega))) (fun q hq => by first | rfl | (simp; done) | (simp; omega)))
            · refine j_if_eq X 54 (by decide) dX0_endOrDull_43 (fun c_19 => False.elim (by revert c_19; decide)) (fun c_19 => ?_)
              refine j_aload_n X 0 rfl rfl dX0_endOrDull_46 ?_
              refine j_iconst X (v := 1) (by decide) dX0_endOrDull_47 ?_
              refine j_putN X (up M1 (14 + i_1) 6 1) up_o (by omega) (wE_1 _ (kd_one12 (by omega))) rfl awF1 6 (by decide) (wP_1_6 _ _ (kd_one12 (by omega))) tyX1 tyX1_ok nmX1 rfl (ty := .boolean) (by decide +kernel) rfl rfl (Nat.le_of_ble_eq_true rfl) (List.mem_of_getElem? (i := 13) rfl) rfl dX0_endOrDull_48 ?_
              refine j_goto X 124 (by decide) dX0_endOrDull_51 ?_
              refine j_iinc X (v := (nI (i_1 + 1))) 1 [(2, .int (nI (i_1 + 1))), (3, .ref (ad (14 + i_1))), (0, .ref (ad 12)), (1, .int b1)] rfl (show nI i_1 + Int32.ofInt 1 = _ from nI_1 i_1) (by decide) rfl dX0_endOrDull_124 ?_
              refine j_goto X 2 (by decide) dX0_endOrDull_127 ?_
              refine j_lv (lv1 := [(2, .int (nI (i_1 + 1))), (0, .ref (ad 12)), (1, .int b1)]) [0, 2, 3] rfl ?_
              exact ih1 (i_1 + 1) _ (by omega) (by omega) (sm_up hs1 (by first | rfl | (simp; done) | (simp; omega) | (simp only [Bool.and_eq_true, Bool.or_eq_true, decide_eq_true_eq, beq_iff_eq]; omega))) (sme_set hvi_1)
        · have qc_3 := ti_ne (n := 0) (by decide) c_3
          refine j_goto X 124 (by decide) dX0_endOrDull_24 ?_
          refine j_iinc X (v := (nI (i_1 + 1))) 1 [(2, .int (nI (i_1 + 1))), (3, .ref (ad (14 + i_1))), (0, .ref (ad 12)), (1, .int b1)] rfl (show nI i_1 + Int32.ofInt 1 = _ from nI_1 i_1) (by decide) rfl dX0_endOrDull_124 ?_
          refine j_goto X 2 (by decide) dX0_endOrDull_127 ?_
          refine j_lv (lv1 := [(2, .int (nI (i_1 + 1))), (0, .ref (ad 12)), (1, .int b1)]) [0, 2, 3] rfl ?_
          exact ih1 (i_1 + 1) _ (by omega) (by omega) hs1 hvi_1
  refine j_lv (lv1 := [(2, .int (nI 0)), (0, .ref (ad 12)), (1, .int b1)]) [0, 1, 2] rfl ?_
  exact loop1 (n + 1) 0 _ (by omega) (by omega) sm_rf sme_rf
set_option maxRecDepth 100000 in
set_option maxHeartbeats 4000000 in
theorem g_restDay_12 (l : Launch) (D : va_G) (y : wY) (ad : Nat → Nat) (M : Mem) (n : Nat) (hn : n ≤ 9) (hm : M 12 3 = nI n) (z2 z7 : Nat) (hT2 : TextOK M 2 z2) (hT7 : TextOK M 7 z7) (b1 : Int32) : MV l D y ad yX0_restDay (Cond.code yX0_restDay cX0_restDay 2 none) 5 M [.ref (ad 12), .int b1] (fun M' => sm (fun b k => b == 6 || b == 11 || (b == 12 && (k == 4 || k == 6 || k == 7 || k == 8)) || (decide (14 ≤ b) && decide (b ≤ 22) && (k == 3 || k == 5 || k == 6))) M M' ∧ sme 14 M M') := by
  refine MV_of (by decide) (Nat.le_of_ble_eq_true rfl) ?_
  intro p e s m args below meth c X hr hlocks
  refine j_lv (lv1 := [(0, .ref (ad 12)), (1, .int b1)]) [0, 1] rfl ?_
  refine j_aload_n X 0 rfl rfl dX0_restDay_0 ?_
  refine j_iload_n X 1 rfl rfl dX0_restDay_1 ?_
  refine j_callVV X (nn := 1) (As := [.int b1]) (st := []) (ci := 0) (by decide) (wE_0 _ rfl) rfl aw_454 aw_455 (g_endOrDull_12 l D y ad M n (by omega) hm z2 z7 hT2 hT7 b1) aw_453 aw_456 aw_20 (by decide +kernel) ⟨by decide, by decide⟩ rfl (Nat.le_of_ble_eq_true rfl) ⟨by decide, by decide⟩ dX0_restDay_2 ?_
  rintro M_2 ⟨s_1, s_1_e⟩
  refine j_aload_n X 0 rfl rfl dX0_restDay_5 ?_
  refine j_aload_n X 0 rfl rfl dX0_restDay_6 ?_
  refine j_get X (by decide) (wE_0 _ rfl) rfl awF0 4 (by decide) aw_124 rfl (v := .int (M_2 12 4)) rfl dX0_restDay_7 ?_
  refine j_aload_n X 0 rfl rfl dX0_restDay_10 ?_
  refine j_get X (by decide) (wE_0 _ rfl) rfl awF0 5 (by decide) aw_61 rfl (v := .int (M_2 12 5)) rfl dX0_restDay_11 ?_
  refine j_iadd X dX0_restDay_14 ?_
  refine j_bipush X (v := 10) (by decide) dX0_restDay_15 ?_
  refine j_irem X (by decide) dX0_restDay_17 ?_
  refine j_put X (up M_2 12 4 (((M_2 12 4) + (M_2 12 5)) - ((M_2 12 4) + (M_2 12 5)) / 10 * 10)) up_o (by decide) (wE_0 _ rfl) rfl awF0 4 (by decide) (wP_0_4 _ _ rfl) tyX0 tyX0_ok nmX0 rfl (ty := .int) (by decide +kernel) rfl rfl (Nat.le_of_ble_eq_true rfl) aw_124 rfl dX0_restDay_18 ?_
  refine j_aload_n X 0 rfl rfl dX0_restDay_21 ?_
  refine j_dup X rfl dX0_restDay_22 ?_
  refine j_get X (by decide) (wE_0 _ rfl) rfl awF0 6 (by decide) aw_197 rfl (v := .int ((up M_2 12 4 (((M_2 12 4) + (M_2 12 5)) - ((M_2 12 4) + (M_2 12 5)) / 10 * 10)) 12 6)) rfl dX0_restDay_23 ?_
  refine j_eqi (v := M_2 12 6) ((up_slot _ (by decide)).trans rfl) ?_
  refine j_iconst X (v := 1) (by decide) dX0_restDay_26 ?_
  refine j_iadd X dX0_restDay_27 ?_
  refine j_put X (up (up M_2 12 4 (((M_2 12 4) + (M_2 12 5)) - ((M_2 12 4) + (M_2 12 5)) / 10 * 10)) 12 6 ((M_2 12 6) + 1)) up_o (by decide) (wE_0 _ rfl) rfl awF0 6 (by decide) (wP_0_6 _ _ rfl) tyX0 tyX0_ok nmX0 rfl (ty := .int) (by decide +kernel) rfl rfl (Nat.le_of_ble_eq_true rfl) aw_197 rfl dX0_restDay_28 ?_
  exact j_vret X hr hlocks dX0_restDay_31 ⟨(sm_up (sm_up (sm_tr sm_rf (sm_w s_1 (by intro b k hb; first | rfl | exact hb | (simp only [Bool.or_eq_false_iff, Bool.and_eq_false_iff, beq_eq_false_iff_ne, ne_eq, decide_eq_false_iff_not] at hb ⊢; omega)))) rfl) rfl), (sme_keep (P := (fun b k => b == 6 || b == 11 || (b == 12 && (k == 4 || k == 6 || k == 7 || k == 8)) || (decide (14 ≤ b) && decide (b ≤ 22) && (k == 3 || k == 5)))) (sme_keep (P := (fun b k => b == 6 || b == 11 || (b == 12 && (k == 4 || k == 6 || k == 7 || k == 8)) || (decide (14 ≤ b) && decide (b ≤ 22) && (k == 3 || k == 5)))) (sme_tr sme_rf s_1_e) (sm_up sm_rf (by first | rfl | (simp; done) | (simp; omega) | (simp only [Bool.and_eq_true, Bool.or_eq_true, decide_eq_true_eq, beq_iff_eq]; omega))) (fun q hq => by first | rfl | (simp; done) | (simp; omega))) (sm_up sm_rf (by first | rfl | (simp; done) | (simp; omega) | (simp only [Bool.and_eq_true, Bool.or_eq_true, decide_eq_true_eq, beq_iff_eq]; omega))) (fun q hq => by first | rfl | (simp; done) | (simp; omega)))⟩
set_option maxRecDepth 100000 in
set_option maxHeartbeats 4000000 in
theorem g_passDay_12 (l : Launch) (D : va_G) (y : wY) (ad : Nat → Nat) (M : Mem) (n : Nat) (hn : n ≤ 9) (hm : M 12 3 = nI n) (z2 z7 : Nat) (hT2 : TextOK M 2 z2) (hT7 : TextOK M 7 z7) (b1 : Int32) : MV l D y ad yX0_passDay (Cond.code yX0_passDay cX0_passDay 2 none) 6 M [.ref (ad 12), .int b1] (fun M' => sm (fun b k => b == 6 || b == 11 || (b == 12 && (k == 4 || k == 6 || k == 7 || k == 8)) || (decide (14 ≤ b) && decide (b ≤ 22) && (k == 3 || k == 5 || k == 6))) M M' ∧ sme 14 M M') := by
  refine MV_of (by decide) (Nat.le_of_ble_eq_true rfl) ?_
  intro p e s m args below meth c X hr hlocks
  refine j_lv (lv1 := [(0, .ref (ad 12)), (1, .int b1)]) [0, 1] rfl ?_
  refine j_aload_n X 0 rfl rfl dX0_passDay_0 ?_
  refine j_callVV X (nn := 0) (As := []) (st := []) (ci := 0) (by decide) (wE_0 _ rfl) rfl aw_443 aw_444 (g_grindArea_12 l D y ad M n (by omega) hm z2 z7 hT2 hT7) aw_442 aw_445 aw_20 (by decide +kernel) ⟨by decide, by decide⟩ rfl (Nat.le_of_ble_eq_true rfl) ⟨by decide, by decide⟩ dX0_passDay_1 ?_
  rintro M_2 s_1
  refine j_aload_n X 0 rfl rfl dX0_passDay_4 ?_
  refine j_iload_n X 1 rfl rfl dX0_passDay_5 ?_
  refine j_callVV X (nn := 1) (As := [.int b1]) (st := []) (ci := 0) (by decide) (wE_0 _ rfl) rfl aw_450 aw_451 (g_restDay_12 l D y ad M_2 n (by omega) ((s_1 12 3 rfl).trans hm) z2 z7 (TextOK_keep (P := (fun b k => b == 6 || b == 11 || (b == 12 && (k == 4 || k == 6 || k == 7 || k == 8)) || (decide (14 ≤ b) && decide (b ≤ 22) && (k == 3 || k == 5 || k == 6)))) (sm_tr sm_rf (sm_w s_1 (by intro b k hb; first | rfl | exact hb | (simp only [Bool.or_eq_false_iff, Bool.and_eq_false_iff, beq_eq_false_iff_ne, ne_eq, decide_eq_false_iff_not] at hb ⊢; omega)))) (fun _ => rfl) (fun _ => rfl) (fun _ => rfl) (fun _ => rfl) hT2) (TextOK_keep (P := (fun b k => b == 6 || b == 11 || (b == 12 && (k == 4 || k == 6 || k == 7 || k == 8)) || (decide (14 ≤ b) && decide (b ≤ 22) && (k == 3 || k == 5 || k == 6)))) (sm_tr sm_rf (sm_w s_1 (by intro b k hb; first | rfl | exact hb | (simp only [Bool.or_eq_false_iff, Bool.and_eq_false_iff, beq_eq_false_iff_ne, ne_eq, decide_eq_false_iff_not] at hb ⊢; omega)))) (fun _ => rfl) (fun _ => rfl) (fun _ => rfl) (fun _ => rfl) hT7) b1) aw_449 aw_452 aw_20 (by decide +kernel) ⟨by decide, by decide⟩ rfl (Nat.le_of_ble_eq_true rfl) ⟨by decide, by decide⟩ dX0_passDay_6 ?_
  rintro M_4 ⟨s_3, s_3_e⟩
  exact j_vret X hr hlocks dX0_passDay_9 ⟨(sm_tr (sm_tr sm_rf (sm_w s_1 (by intro b k hb; first | rfl | exact hb | (simp only [Bool.or_eq_false_iff, Bool.and_eq_false_iff, beq_eq_false_iff_ne, ne_eq, decide_eq_false_iff_not] at hb ⊢; omega)))) (sm_w s_3 (by intro b k hb; first | rfl | exact hb | (simp only [Bool.or_eq_false_iff, Bool.and_eq_false_iff, beq_eq_false_iff_ne, ne_eq, decide_eq_false_iff_not] at hb ⊢; omega)))), (sme_tr (sme_keep sme_rf s_1 (fun q hq => by first | rfl | (simp; done) | (simp; omega))) s_3_e)⟩
set_option maxRecDepth 100000 in
set_option maxHeartbeats 4000000 in
theorem g_isFree_49 (l : Launch) (D : va_G) (y : wY) (ad : Nat → Nat) (M : Mem) (n : Nat) (hn : n ≤ 9) (hm : M 49 3 = nI n) (q : Nat) (hq : q < 9) : MI l D y ad yX0_isFree (Cond.code yX0_isFree cX0_isFree 2 (some .boolean)) 1 M [.ref (ad 49), .ref (ad (51 + q))] (fun r M' => (0 = r ∧ M = M') ∨ (1 = r ∧ M = M')) := by
  refine MI_of (by decide) (Nat.le_of_ble_eq_true rfl) ?_
  intro p e s m args below meth c X hr hlocks
  refine j_lv (lv1 := [(0, .ref (ad 49)), (1, .ref (ad (51 + q)))]) [0, 1] rfl ?_
  refine j_aload_n X 1 rfl rfl dX0_isFree_0 ?_
  refine j_getN X (by omega) (wE_1 _ (kd_one49 (by omega))) rfl awF1 4 (by decide) (List.mem_of_getElem? (i := 9) rfl) rfl (v := .int (M (51 + q) 4)) rfl dX0_isFree_1 ?_
  refine j_iconst X (v := 0) (by decide) dX0_isFree_4 ?_
  refine j_aload_n X 0 rfl rfl dX0_isFree_5 ?_
  refine j_get X (by decide) (wE_0 _ rfl) rfl awF0 3 (by decide) aw_155 rfl (v := .int (M 49 3)) rfl dX0_isFree_6 ?_
  refine j_eqi (v := (nI n)) hm ?_
  refine j_iconst X (v := 1) (by decide) dX0_isFree_9 ?_
  refine j_isub X dX0_isFree_10 ?_
  refine j_callSNI X (nn := 3) (As := [.int (M (51 + q) 4), .int 0, .int ((nI n) - 1)]) (st := []) aw_110 (g_X7_isWithin l D y ad M (M (51 + q) 4) 0 ((nI n) - 1) 0 (((n : Nat) : Int) - 1) (by decide) (nI_m1 (by omega))) (List.mem_of_getElem? (i := 29) rfl) aw_111 aw_2 (by decide +kernel) ⟨by decide, by decide⟩ rfl (Nat.le_of_ble_eq_true rfl) ⟨by decide, by decide⟩ dX0_isFree_11 ?_
  rintro r_ M1_ (⟨rfl, rfl, h_1⟩ | ⟨rfl, rfl, h_1⟩)
  · refine j_if_eq X 32 (by decide) dX0_isFree_14 (fun c_2 => False.elim (by revert c_2; decide)) (fun c_2 => ?_)
    refine j_aload_n X 0 rfl rfl dX0_isFree_17 ?_
    refine j_get X (by decide) (wE_0 _ rfl) rfl awF0 2 (by decide) aw_60 rfl (v := .ref (ad 50)) rfl dX0_isFree_18 ?_
    refine j_aload_n X 1 rfl rfl dX0_isFree_21 ?_
    refine j_getN X (by omega) (wE_1 _ (kd_one49 (by omega))) rfl awF1 4 (by decide) (List.mem_of_getElem? (i := 9) rfl) rfl (v := .int (M (51 + q) 4)) rfl dX0_isFree_22 ?_
    obtain ⟨j_3, hj_3, ej_3⟩ := nI_oft (x := (M (51 + q) 4)) (n := 8) (by omega) (by omega) (by decide)
    refine j_eqi (v := nI j_3) ej_3 ?_
    refine j_aald10 X (by decide) rfl (show vp_in (nI j_3) 9 from vp_in_nI (by omega) (by decide)) dX0_isFree_25 ?_
    refine j_eqr (v := 51 + j_3) (by rw [nI_clamp (by omega)]; exact rf_one49 (by omega)) ?_
    refine j_getN X (by omega) (wE_1 _ (kd_one49 (by omega))) rfl awF1 6 (by decide) (List.mem_of_getElem? (i := 13) rfl) rfl (v := .int (M (51 + j_3) 6)) rfl dX0_isFree_26 ?_
    refine j_if_eq X 36 (by decide) dX0_isFree_29 (fun c_4 => ?_) (fun c_4 => ?_)
    · have qc_4 := ti_eq (n := 0) (by decide) c_4
      refine j_iconst X (v := 0) (by decide) dX0_isFree_36 ?_
      exact j_zret X hr hlocks (Or.inl rfl) dX0_isFree_37 (Or.inl ⟨rfl, rfl⟩)
    · have qc_4 := ti_ne (n := 0) (by decide) c_4
      refine j_iconst X (v := 1) (by decide) dX0_isFree_32 ?_
      refine j_goto X 37 (by decide) dX0_isFree_33 ?_
      exact j_zret X hr hlocks (Or.inr rfl) dX0_isFree_37 (Or.inr ⟨rfl, rfl⟩)
  · refine j_if_eq X 32 (by decide) dX0_isFree_14 (fun c_5 => ?_) (fun c_5 => False.elim (by revert c_5; decide))
    refine j_iconst X (v := 1) (by decide) dX0_isFree_32 ?_
    refine j_goto X 37 (by decide) dX0_isFree_33 ?_
    exact j_zret X hr hlocks (Or.inr rfl) dX0_isFree_37 (Or.inr ⟨rfl, rfl⟩)
set_option maxRecDepth 100000 in
set_option maxHeartbeats 4000000 in
theorem g_grindArea_49 (l : Launch) (D : va_G) (y : wY) (ad : Nat → Nat) (M : Mem) (n : Nat) (hn : n ≤ 9) (hm : M 49 3 = nI n) (z2 z7 : Nat) (hT2 : TextOK M 2 z2) (hT7 : TextOK M 7 z7) : MV l D y ad yX0_grindArea (Cond.code yX0_grindArea cX0_grindArea 3 none) 4 M [.ref (ad 49)] (fun M' => sm (fun b k => b == 6 || b == 11 || (b == 49 && (k == 4 || k == 6 || k == 7 || k == 8)) || (decide (51 ≤ b) && decide (b ≤ 59) && (k == 3 || k == 5))) M M') := by
  refine MV_of (by decide) (Nat.le_of_ble_eq_true rfl) ?_
  intro p e s m args below meth c X hr hlocks
  refine j_lv (lv1 := [(0, .ref (ad 49))]) [0] rfl ?_
  refine j_iconst X (v := 0) (by decide) dX0_grindArea_0 ?_
  refine j_istore_n X [(1, .int 0), (0, .ref (ad 49))] rfl (by decide) rfl dX0_grindArea_1 ?_
  have loop1 : ∀ (n_1 i_1 : Nat) (M1 : Mem), i_1 ≤ n → n - i_1 < n_1 → sm (fun b k => b == 6 || b == 11 || (b == 49 && (k == 4 || k == 6 || k == 7 || k == 8)) || (decide (51 ≤ b) && decide (b ≤ 59) && (k == 3 || k == 5))) M M1 → J p l e (rmN 4) s m args below meth c 0 0 (QV (fun M' => sm (fun b k => b == 6 || b == 11 || (b == 49 && (k == 4 || k == 6 || k == 7 || k == 8)) || (decide (51 ≤ b) && decide (b ≤ 59) && (k == 3 || k == 5))) M M') D y ad M s args below) D y ad (va_A (PL y ad M) s.heap.size) 3 M1 2 [(1, .int (nI i_1)), (0, .ref (ad 49))] [] := by
    intro n_1
    induction n_1 with
    | zero => intro i_1 M1 h1 h2; exact absurd h2 (by omega)
    | succ n_1 ih1 =>
      intro i_1 M1 h1i_1 h2i_1 hs1
      refine j_iload_n X 0 rfl rfl dX0_grindArea_2 ?_
      refine j_aload_n X 1 rfl rfl dX0_grindArea_3 ?_
      refine j_get X (by decide) (wE_0 _ rfl) rfl awF0 3 (by decide) aw_155 rfl (v := .int (M1 49 3)) rfl dX0_grindArea_4 ?_
      refine j_eqi (v := (nI n)) ((hs1 49 3 rfl).trans hm) ?_
      refine j_icmp_ge X 75 (by decide) dX0_grindArea_7 (fun c_2 => ?_) (fun c_2 => ?_)
      · have c_2 := (nI_leI (by omega) (by omega)).mp (show nI (n) ≤ nI i_1 from c_2)
        exact j_vret X hr hlocks dX0_grindArea_75 (sm_tr sm_rf (sm_w hs1 (by intro b k hb; first | rfl | exact hb | (simp only [Bool.or_eq_false_iff, Bool.and_eq_false_iff, beq_eq_false_iff_ne, ne_eq, decide_eq_false_iff_not] at hb ⊢; omega))))
      · have c_2 : i_1 < n := by
          rcases Nat.lt_or_ge i_1 (n) with g | g
          · exact g
          · exact absurd (show nI (n) ≤ nI i_1 from nI_le g (by omega)) c_2
        refine j_aload_n X 1 rfl rfl dX0_grindArea_10 ?_
        refine j_get X (by decide) (wE_0 _ rfl) rfl awF0 2 (by decide) aw_60 rfl (v := .ref (ad 50)) rfl dX0_grindArea_11 ?_
        refine j_iload_n X 0 rfl rfl dX0_grindArea_14 ?_
        refine j_aald10 X (by decide) rfl (show vp_in (nI i_1) 9 from vp_in_nI (by omega) (by decide)) dX0_grindArea_15 ?_
        refine j_eqr (v := 51 + i_1) (by rw [nI_clamp (by omega)]; exact rf_one49 (by omega)) ?_
        refine j_astore_n X [(2, .ref (ad (51 + i_1))), (1, .int (nI i_1)), (0, .ref (ad 49))] rfl (by decide) rfl dX0_grindArea_16 ?_
        refine j_aload_n X 0 rfl rfl dX0_grindArea_17 ?_
        refine j_getN X (by omega) (wE_1 _ (kd_one49 (by omega))) rfl awF1 2 (by decide) (List.mem_of_getElem? (i := 5) rfl) rfl (v := .int (M1 (51 + i_1) 2)) rfl dX0_grindArea_18 ?_
        refine j_aload_n X 2 rfl rfl dX0_grindArea_21 ?_
        refine j_get X (by decide) (wE_0 _ rfl) rfl awF0 4 (by decide) aw_124 rfl (v := .int (M1 49 4)) rfl dX0_grindArea_22 ?_
        refine j_icmp_ne X 69 (by decide) dX0_grindArea_25 (fun c_3 => ?_) (fun c_3 => ?_)
        · refine j_iinc X (v := (nI (i_1 + 1))) 1 [(1, .int (nI (i_1 + 1))), (2, .ref (ad (51 + i_1))), (0, .ref (ad 49))] rfl (show nI i_1 + Int32.ofInt 1 = _ from nI_1 i_1) (by decide) rfl dX0_grindArea_69 ?_
          refine j_goto X 2 (by decide) dX0_grindArea_72 ?_
          refine j_lv (lv1 := [(1, .int (nI (i_1 + 1))), (0, .ref (ad 49))]) [0, 2] rfl ?_
          exact ih1 (i_1 + 1) _ (by omega) (by omega) hs1
        · refine j_aload_n X 0 rfl rfl dX0_grindArea_28 ?_
          refine j_getN X (by omega) (wE_1 _ (kd_one49 (by omega))) rfl awF1 6 (by decide) (List.mem_of_getElem? (i := 13) rfl) rfl (v := .int (M1 (51 + i_1) 6)) rfl dX0_grindArea_29 ?_
          refine j_if_ne X 69 (by decide) dX0_grindArea_32 (fun c_4 => ?_) (fun c_4 => ?_)
          · have qc_4 := ti_ne (n := 0) (by decide) c_4
            refine j_iinc X (v := (nI (i_1 + 1))) 1 [(1, .int (nI (i_1 + 1))), (2, .ref (ad (51 + i_1))), (0, .ref (ad 49))] rfl (show nI i_1 + Int32.ofInt 1 = _ from nI_1 i_1) (by decide) rfl dX0_grindArea_69 ?_
            refine j_goto X 2 (by decide) dX0_grindArea_72 ?_
            refine j_lv (lv1 := [(1, .int (nI (i_1 + 1))), (0, .ref (ad 49))]) [0, 2] rfl ?_
            exact ih1 (i_1 + 1) _ (by omega) (by omega) hs1
          · have qc_4 := ti_eq (n := 0) (by decide) c_4
            refine j_aload_n X 0 rfl rfl dX0_grindArea_35 ?_
            refine j_bipush X (v := 99) (by decide) dX0_grindArea_36 ?_
            refine j_aload_n X 0 rfl rfl dX0_grindArea_38 ?_
            refine j_getN X (by omega) (wE_1 _ (kd_one49 (by omega))) rfl awF1 3 (by decide) (List.mem_of_getElem? (i := 7) rfl) rfl (v := .int (M1 (51 + i_1) 3)) rfl dX0_grindArea_39 ?_
            refine j_aload_n X 2 rfl rfl dX0_grindArea_42 ?_
            refine j_aload_n X 0 rfl rfl dX0_grindArea_43 ?_
            refine j_callVI X (nn := 1) (As := [.ref (ad (51 + i_1))]) (st := [.int (M1 (51 + i_1) 3), .int 99, .ref (ad (51 + i_1))]) (ci := 0) (by decide) (wE_0 _ rfl) rfl aw_194 aw_195 (g_gainsOf_49 l D y ad M1 z2 (TextOK_keep (P := (fun b k => b == 6 || b == 11 || (b == 49 && (k == 4 || k == 6 || k == 7 || k == 8)) || (decide (51 ≤ b) && decide (b ≤ 59) && (k == 3 || k == 5)))) (sm_tr sm_rf (sm_w hs1 (by intro b k hb; first | rfl | exact hb | (simp only [Bool.or_eq_false_iff, Bool.and_eq_false_iff, beq_eq_false_iff_ne, ne_eq, decide_eq_false_iff_not] at hb ⊢; omega)))) (fun _ => rfl) (fun _ => rfl) (fun _ => rfl) (fun _ => rfl) hT2) (51 + i_1) (by omega) (kd_one49 (by omega))) aw_448 aw_196 aw_20 (by decide +kernel) ⟨by decide, by decide⟩ rfl (Nat.le_of_ble_eq_true rfl) ⟨by decide, by decide⟩ dX0_grindArea_44 ?_
            rintro r_6 M_7 s_5
            refine j_iadd X dX0_grindArea_47 ?_
            refine j_mmin X aw_446 aw_202 aw_203 aw_204 (by decide) (Nat.le_of_ble_eq_true rfl) (by decide) (by decide) dX0_grindArea_48 ?_
            refine j_putN X (up M_7 (51 + i_1) 3 (if ((M1 (51 + i_1) 3) + r_6) < 99 then ((M1 (51 + i_1) 3) + r_6) else 99)) up_o (by omega) (wE_1 _ (kd_one49 (by omega))) rfl awF1 3 (by decide) (wP_1_3 _ _ (kd_one49 (by omega))) tyX1 tyX1_ok nmX1 rfl (ty := .int) (by decide +kernel) rfl rfl (Nat.le_of_ble_eq_true rfl) (List.mem_of_getElem? (i := 7) rfl) rfl dX0_grindArea_51 ?_
            refine j_aload_n X 2 rfl rfl dX0_grindArea_54 ?_
            refine j_ldc X (v := 99999) aw_447 dX0_grindArea_55 ?_
            refine j_aload_n X 2 rfl rfl dX0_grindArea_57 ?_
            refine j_get X (by decide) (wE_0 _ rfl) rfl awF0 8 (by decide) aw_126 rfl (v := .int ((up M_7 (51 + i_1) 3 (if ((M1 (51 + i_1) 3) + r_6) < 99 then ((M1 (51 + i_1) 3) + r_6) else 99)) 49 8)) rfl dX0_grindArea_58 ?_
            refine j_eqi (v := M_7 49 8) ((up_cell (by omega)).trans rfl) ?_
            refine j_iconst X (v := 3) (by decide) dX0_grindArea_61 ?_
            refine j_iadd X dX0_grindArea_62 ?_
            refine j_mmin X aw_446 aw_202 aw_203 aw_204 (by decide) (Nat.le_of_ble_eq_true rfl) (by decide) (by decide) dX0_grindArea_63 ?_
            refine j_put X (up (up M_7 (51 + i_1) 3 (if ((M1 (51 + i_1) 3) + r_6) < 99 then ((M1 (51 + i_1) 3) + r_6) else 99)) 49 8 (if ((M_7 49 8) + 3) < 99999 then ((M_7 49 8) + 3) else 99999)) up_o (by decide) (wE_0 _ rfl) rfl awF0 8 (by decide) (wP_0_8 _ _ rfl) tyX0 tyX0_ok nmX0 rfl (ty := .int) (by decide +kernel) rfl rfl (Nat.le_of_ble_eq_true rfl) aw_126 rfl dX0_grindArea_66 ?_
            refine j_iinc X (v := (nI (i_1 + 1))) 1 [(1, .int (nI (i_1 + 1))), (2, .ref (ad (51 + i_1))), (0, .ref (ad 49))] rfl (show nI i_1 + Int32.ofInt 1 = _ from nI_1 i_1) (by decide) rfl dX0_grindArea_69 ?_
            refine j_goto X 2 (by decide) dX0_grindArea_72 ?_
            refine j_lv (lv1 := [(1, .int (nI (i_1 + 1))), (0, .ref (ad 49))]) [0, 2] rfl ?_
            exact ih1 (i_1 + 1) _ (by omega) (by omega) (sm_up (sm_up (sm_tr hs1 (sm_w s_5 (by intro b k hb; first | rfl | exact hb | (simp only [Bool.or_eq_false_iff, Bool.and_eq_false_iff, beq_eq_false_iff_ne, ne_eq, decide_eq_false_iff_not] at hb ⊢; omega)))) (by first | rfl | (simp; done) | (simp; omega) | (simp only [Bool.and_eq_true, Bool.or_eq_true, decide_eq_true_eq, beq_iff_eq]; omega))) rfl)
  refine j_lv (lv1 := [(1, .int (nI 0)), (0, .ref (ad 49))]) [0, 1] rfl ?_
  exact loop1 (n + 1) 0 _ (by omega) (by omega) sm_rf
set_option maxRecDepth 100000 in
set_option maxHeartbeats 4000000 in
theorem g_endOrDull_49 (l : Launch) (D : va_G) (y : wY) (ad : Nat → Nat) (M : Mem) (n : Nat) (hn : n ≤ 9) (hm : M 49 3 = nI n) (z2 z7 : Nat) (hT2 : TextOK M 2 z2) (hT7 : TextOK M 7 z7) (b1 : Int32) : MV l D y ad yX0_endOrDull (Cond.code yX0_endOrDull cX0_endOrDull 4 none) 4 M [.ref (ad 49), .int b1] (fun M' => sm (fun b k => b == 6 || b == 11 || (b == 49 && (k == 4 || k == 6 || k == 7 || k == 8)) || (decide (51 ≤ b) && decide (b ≤ 59) && (k == 3 || k == 5 || k == 6))) M M' ∧ sme 51 M M') := by
  refine MV_of (by decide) (Nat.le_of_ble_eq_true rfl) ?_
  intro p e s m args below meth c X hr hlocks
  refine j_lv (lv1 := [(0, .ref (ad 49)), (1, .int b1)]) [0, 1] rfl ?_
  refine j_iconst X (v := 0) (by decide) dX0_endOrDull_0 ?_
  refine j_istore_n X [(2, .int 0), (0, .ref (ad 49)), (1, .int b1)] rfl (by decide) rfl dX0_endOrDull_1 ?_
  have loop1 : ∀ (n_1 i_1 : Nat) (M1 : Mem), i_1 ≤ n → n - i_1 < n_1 → sm (fun b k => b == 6 || b == 11 || (b == 49 && (k == 4 || k == 6 || k == 7 || k == 8)) || (decide (51 ≤ b) && decide (b ≤ 59) && (k == 3 || k == 5 || k == 6))) M M1 → (sme 51 M M1) → J p l e (rmN 4) s m args below meth c 0 0 (QV (fun M' => sm (fun b k => b == 6 || b == 11 || (b == 49 && (k == 4 || k == 6 || k == 7 || k == 8)) || (decide (51 ≤ b) && decide (b ≤ 59) && (k == 3 || k == 5 || k == 6))) M M' ∧ sme 51 M M') D y ad M s args below) D y ad (va_A (PL y ad M) s.heap.size) 4 M1 2 [(2, .int (nI i_1)), (0, .ref (ad 49)), (1, .int b1)] [] := by
    intro n_1
    induction n_1 with
    | zero => intro i_1 M1 h1 h2; exact absurd h2 (by omega)
    | succ n_1 ih1 =>
      intro i_1 M1 h1i_1 h2i_1 hs1 hvi_1
      refine j_iload_n X 0 rfl rfl dX0_endOrDull_2 ?_
      refine j_aload_n X 1 rfl rfl dX0_endOrDull_3 ?_
      refine j_get X (by decide) (wE_0 _ rfl) rfl awF0 3 (by decide) aw_155 rfl (v := .int (M1 49 3)) rfl dX0_endOrDull_4 ?_
      refine j_eqi (v := (nI n)) ((hs1 49 3 rfl).trans hm) ?_
      refine j_icmp_ge X 130 (by decide) dX0_endOrDull_7 (fun c_2 => ?_) (fun c_2 => ?_)
      · have c_2 := (nI_leI (by omega) (by omega)).mp (show nI (n) ≤ nI i_1 from c_2)
        exact j_vret X hr hlocks dX0_endOrDull_130 ⟨(sm_tr sm_rf (sm_w hs1 (by intro b k hb; first | rfl | exact hb | (simp only [Bool.or_eq_false_iff, Bool.and_eq_false_iff, beq_eq_false_iff_ne, ne_eq, decide_eq_false_iff_not] at hb ⊢; omega)))), hvi_1⟩
      · have c_2 : i_1 < n := by
          rcases Nat.lt_or_ge i_1 (n) with g | g
          · exact g
          · exact absurd (show nI (n) ≤ nI i_1 from nI_le g (by omega)) c_2
        refine j_aload_n X 1 rfl rfl dX0_endOrDull_10 ?_
        refine j_get X (by decide) (wE_0 _ rfl) rfl awF0 2 (by decide) aw_60 rfl (v := .ref (ad 50)) rfl dX0_endOrDull_11 ?_
        refine j_iload_n X 0 rfl rfl dX0_endOrDull_14 ?_
        refine j_aald10 X (by decide) rfl (show vp_in (nI i_1) 9 from vp_in_nI (by omega) (by decide)) dX0_endOrDull_15 ?_
        refine j_eqr (v := 51 + i_1) (by rw [nI_clamp (by omega)]; exact rf_one49 (by omega)) ?_
        refine j_astore_n X [(3, .ref (ad (51 + i_1))), (2, .int (nI i_1)), (0, .ref (ad 49)), (1, .int b1)] rfl (by decide) rfl dX0_endOrDull_16 ?_
        refine j_aload_n X 0 rfl rfl dX0_endOrDull_17 ?_
        refine j_getN X (by omega) (wE_1 _ (kd_one49 (by omega))) rfl awF1 6 (by decide) (List.mem_of_getElem? (i := 13) rfl) rfl (v := .int (M1 (51 + i_1) 6)) rfl dX0_endOrDull_18 ?_
        refine j_if_eq X 27 (by decide) dX0_endOrDull_21 (fun c_3 => ?_) (fun c_3 => ?_)
        · have qc_3 := ti_eq (n := 0) (by decide) c_3
          refine j_aload_n X 0 rfl rfl dX0_endOrDull_27 ?_
          refine j_getN X (by omega) (wE_1 _ (kd_one49 (by omega))) rfl awF1 3 (by decide) (List.mem_of_getElem? (i := 7) rfl) rfl (v := .int (M1 (51 + i_1) 3)) rfl dX0_endOrDull_28 ?_
          refine j_aload_n X 0 rfl rfl dX0_endOrDull_31 ?_
          refine j_callVNI X (nn := 0) (As := []) (st := [.int (M1 (51 + i_1) 3)]) (ci := 1) (by omega) (wE_1 _ (kd_one49 (by omega))) rfl aw_220 aw_221 (g_needs l D y ad M1 (51 + i_1) (by omega) (kd_one49 (by omega))) (List.mem_of_getElem? (i := 28) rfl) aw_222 aw_65 (by decide +kernel) ⟨by decide, by decide⟩ rfl (Nat.le_of_ble_eq_true rfl) ⟨by decide, by decide⟩ dX0_endOrDull_32 ?_
          rintro r_4 M1_ rfl
          refine j_icmp_lt X 54 (by decide) dX0_endOrDull_35 (fun c_5 => ?_) (fun c_5 => ?_)
          · have qc_5 := ti_lt (a := (M1 (51 + i_1) 3).toInt) (b := r_4.toInt) rfl rfl c_5
            refine j_iload_n X 3 rfl rfl dX0_endOrDull_54 ?_
            refine j_if_eq X 91 (by decide) dX0_endOrDull_55 (fun c_6 => ?_) (fun c_6 => ?_)
            · have qc_6 := ti_eq (n := 0) (by decide) c_6
              refine j_aload_n X 0 rfl rfl dX0_endOrDull_91 ?_
              refine j_iconst X (v := 0) (by decide) dX0_endOrDull_92 ?_
              refine j_aload_n X 0 rfl rfl dX0_endOrDull_93 ?_
              refine j_getN X (by omega) (wE_1 _ (kd_one49 (by omega))) rfl awF1 3 (by decide) (List.mem_of_getElem? (i := 7) rfl) rfl (v := .int (M1 (51 + i_1) 3)) rfl dX0_endOrDull_94 ?_
              refine j_aload_n X 0 rfl rfl dX0_endOrDull_97 ?_
              refine j_callVNI X (nn := 0) (As := []) (st := [.int (M1 (51 + i_1) 3), .int 0, .ref (ad (51 + i_1))]) (ci := 1) (by omega) (wE_1 _ (kd_one49 (by omega))) rfl aw_223 aw_224 (g_dulls l D y ad M1 (51 + i_1) (by omega) (kd_one49 (by omega))) (List.mem_of_getElem? (i := 30) rfl) aw_225 aw_65 (by decide +kernel) ⟨by decide, by decide⟩ rfl (Nat.le_of_ble_eq_true rfl) ⟨by decide, by decide⟩ dX0_endOrDull_98 ?_
              rintro r_7 M1_ rfl
              refine j_isub X dX0_endOrDull_101 ?_
              refine j_mmax X aw_457 aw_206 aw_203 aw_207 (by decide) (Nat.le_of_ble_eq_true rfl) (by decide) (by decide) dX0_endOrDull_102 ?_
              refine j_putN X (up M1 (51 + i_1) 3 (if 0 < ((M1 (51 + i_1) 3) - r_7) then ((M1 (51 + i_1) 3) - r_7) else 0)) up_o (by omega) (wE_1 _ (kd_one49 (by omega))) rfl awF1 3 (by decide) (wP_1_3 _ _ (kd_one49 (by omega))) tyX1 tyX1_ok nmX1 rfl (ty := .int) (by decide +kernel) rfl rfl (Nat.le_of_ble_eq_true rfl) (List.mem_of_getElem? (i := 7) rfl) rfl dX0_endOrDull_105 ?_
              refine j_aload_n X 0 rfl rfl dX0_endOrDull_108 ?_
              refine j_sipush X (v := 999) (by decide) dX0_endOrDull_109 ?_
              refine j_aload_n X 0 rfl rfl dX0_endOrDull_112 ?_
              refine j_getN X (by omega) (wE_1 _ (kd_one49 (by omega))) rfl awF1 5 (by decide) (List.mem_of_getElem? (i := 11) rfl) rfl (v := .int ((up M1 (51 + i_1) 3 (if 0 < ((M1 (51 + i_1) 3) - r_7) then ((M1 (51 + i_1) 3) - r_7) else 0)) (51 + i_1) 5)) rfl dX0_endOrDull_113 ?_
              refine j_eqi (v := M1 (51 + i_1) 5) ((up_slot _ (by decide)).trans rfl) ?_
              refine j_iconst X (v := 1) (by decide) dX0_endOrDull_116 ?_
              refine j_iadd X dX0_endOrDull_117 ?_
              refine j_mmin X aw_446 aw_202 aw_203 aw_204 (by decide) (Nat.le_of_ble_eq_true rfl) (by decide) (by decide) dX0_endOrDull_118 ?_
              refine j_putN X (up (up M1 (51 + i_1) 3 (if 0 < ((M1 (51 + i_1) 3) - r_7) then ((M1 (51 + i_1) 3) - r_7) else 0)) (51 + i_1) 5 (if ((M1 (51 + i_1) 5) + 1) < 999 then ((M1 (51 + i_1) 5) + 1) else 999)) up_o (by omega) (wE_1 _ (kd_one49 (by omega))) rfl awF1 5 (by decide) (wP_1_5 _ _ (kd_one49 (by omega))) tyX1 tyX1_ok nmX1 rfl (ty := .int) (by decide +kernel) rfl rfl (Nat.le_of_ble_eq_true rfl) (List.mem_of_getElem? (i := 11) rfl) rfl dX0_endOrDull_121 ?_
              refine j_iinc X (v := (nI (i_1 + 1))) 1 [(2, .int (nI (i_1 + 1))), (3, .ref (ad (51 + i_1))), (0, .ref (ad 49)), (1, .int b1)] rfl (show nI i_1 + Int32.ofInt 1 = _ from nI_1 i_1) (by decide) rfl dX0_endOrDull_124 ?_
              refine j_goto X 2 (by decide) dX0_endOrDull_127 ?_
              refine j_lv (lv1 := [(2, .int (nI (i_1 + 1))), (0, .ref (ad 49)), (1, .int b1)]) [0, 2, 3] rfl ?_
              exact ih1 (i_1 + 1) _ (by omega) (by omega) (sm_up (sm_up hs1 (by first | rfl | (simp; done) | (simp; omega) | (simp only [Bool.and_eq_true, Bool.or_eq_true, decide_eq_true_eq, beq_iff_eq]; omega))) (by first | rfl | (simp; done) | (simp; omega) | (simp only [Bool.and_eq_true, Bool.or_eq_true, decide_eq_true_eq, beq_iff_eq]; omega))) (sme_keep (P := (fun b k => b == 6 || b == 11 || (b == 49 && (k == 4 || k == 6 || k == 7 || k == 8)) || (decide (51 ≤ b) && decide (b ≤ 59) && (k == 3 || k == 5)))) (sme_keep (P := (fun b k => b == 6 || b == 11 || (b == 49 && (k == 4 || k == 6 || k == 7 || k == 8)) || (decide (51 ≤ b) && decide (b ≤ 59) && (k == 3 || k == 5)))) hvi_1 (sm_up sm_rf (by first | rfl | (simp; done) | (simp; omega) | (simp only [Bool.and_eq_true, Bool.or_eq_true, decide_eq_true_eq, beq_iff_eq]; omega))) (fun q hq => by first | rfl | (simp; done) | (simp; omega))) (sm_up sm_rf (by first | rfl | (simp; done) | (simp; omega) | (simp only [Bool.and_eq_true, Bool.or_eq_true, decide_eq_true_eq, beq_iff_eq]; omega))) (fun q hq => by first | rfl | (simp; done) | (simp; omega)))
            · have qc_6 := ti_ne (n := 0) (by decide) c_6
              refine j_aload_n X 2 rfl rfl dX0_endOrDull_58 ?_
              refine j_ldc X (v := 99999) aw_447 dX0_endOrDull_59 ?_
              refine j_aload_n X 2 rfl rfl dX0_endOrDull_61 ?_
              refine j_get X (by decide) (wE_0 _ rfl) rfl awF0 7 (by decide) aw_125 rfl (v := .int (M1 49 7)) rfl dX0_endOrDull_62 ?_
              refine j_aload_n X 2 rfl rfl dX0_endOrDull_65 ?_
              refine j_get X (by decide) (wE_0 _ rfl) rfl awF0 1 (by decide) aw_63 rfl (v := .ref (ad 7)) rfl dX0_endOrDull_66 ?_
              refine j_aload_n X 0 rfl rfl dX0_endOrDull_69 ?_
              refine j_getN X (by omega) (wE_1 _ (kd_one49 (by omega))) rfl awF1 3 (by decide) (List.mem_of_getElem? (i := 7) rfl) rfl (v := .int (M1 (51 + i_1) 3)) rfl dX0_endOrDull_70 ?_
              refine j_aload_n X 0 rfl rfl dX0_endOrDull_73 ?_
              refine j_getN X (by omega) (wE_1 _ (kd_one49 (by omega))) rfl awF1 5 (by decide) (List.mem_of_getElem? (i := 11) rfl) rfl (v := .int (M1 (51 + i_1) 5)) rfl dX0_endOrDull_74 ?_
              refine j_aload_n X 0 rfl rfl dX0_endOrDull_77 ?_
              refine j_getN X (by omega) (wE_1 _ (kd_one49 (by omega))) rfl awF1 1 (by decide) (List.mem_of_getElem? (i := 3) rfl) rfl (v := .int (M1 (51 + i_1) 1)) rfl dX0_endOrDull_78 ?_
              refine j_callVNI X (nn := 3) (As := [.int (M1 (51 + i_1) 3), .int (M1 (51 + i_1) 5), .int (M1 (51 + i_1) 1)]) (st := [.int (M1 49 7), .int 99999, .ref (ad 49)]) (ci := 4) (by decide) (wE_4 _ rfl) rfl aw_198 aw_199 (g_gives_7 l D y ad M1 z7 (TextOK_keep (P := (fun b k => b == 6 || b == 11 || (b == 49 && (k == 4 || k == 6 || k == 7 || k == 8)) || (decide (51 ≤ b) && decide (b ≤ 59) && (k == 3 || k == 5 || k == 6)))) (sm_tr sm_rf (sm_w hs1 (by intro b k hb; first | rfl | exact hb | (simp only [Bool.or_eq_false_iff, Bool.and_eq_false_iff, beq_eq_false_iff_ne, ne_eq, decide_eq_false_iff_not] at hb ⊢; omega)))) (fun _ => rfl) (fun _ => rfl) (fun _ => rfl) (fun _ => rfl) hT7) (M1 (51 + i_1) 3) (M1 (51 + i_1) 5) (M1 (51 + i_1) 1)) (List.mem_of_getElem? (i := 14) rfl) aw_200 aw_41 (by decide +kernel) ⟨by decide, by decide⟩ rfl (Nat.le_of_ble_eq_true rfl) ⟨by decide, by decide⟩ dX0_endOrDull_81 ?_
              rintro r_9 M_10 s_8
              refine j_iadd X dX0_endOrDull_84 ?_
              refine j_mmin X aw_446 aw_202 aw_203 aw_204 (by decide) (Nat.le_of_ble_eq_true rfl) (by decide) (by decide) dX0_endOrDull_85 ?_
              refine j_put X (up M_10 49 7 (if ((M1 49 7) + r_9) < 99999 then ((M1 49 7) + r_9) else 99999)) up_o (by decide) (wE_0 _ rfl) rfl awF0 7 (by decide) (wP_0_7 _ _ rfl) tyX0 tyX0_ok nmX0 rfl (ty := .int) (by decide +kernel) rfl rfl (Nat.le_of_ble_eq_true rfl) aw_125 rfl dX0_endOrDull_88 ?_
              refine j_aload_n X 0 rfl rfl dX0_endOrDull_91 ?_
              refine j_iconst X (v := 0) (by decide) dX0_endOrDull_92 ?_
              refine j_aload_n X 0 rfl rfl dX0_endOrDull_93 ?_
              refine j_getN X (by omega) (wE_1 _ (kd_one49 (by omega))) rfl awF1 3 (by decide) (List.mem_of_getElem? (i := 7) rfl) rfl (v := .int ((up M_10 49 7 (if ((M1 49 7) + r_9) < 99999 then ((M1 49 7) + r_9) else 99999)) (51 + i_1) 3)) rfl dX0_endOrDull_94 ?_
              refine j_eqi (v := M_10 (51 + i_1) 3) ((up_cell (by omega)).trans rfl) ?_
              refine j_aload_n X 0 rfl rfl dX0_endOrDull_97 ?_
              refine j_callVNI X (nn := 0) (As := []) (st := [.int (M_10 (51 + i_1) 3), .int 0, .ref (ad (51 + i_1))]) (ci := 1) (by omega) (wE_1 _ (kd_one49 (by omega))) rfl aw_223 aw_224 (g_dulls l D y ad (up M_10 49 7 (if ((M1 49 7) + r_9) < 99999 then ((M1 49 7) + r_9) else 99999)) (51 + i_1) (by omega) (kd_one49 (by omega))) (List.mem_of_getElem? (i := 30) rfl) aw_225 aw_65 (by decide +kernel) ⟨by decide, by decide⟩ rfl (Nat.le_of_ble_eq_true rfl) ⟨by decide, by decide⟩ dX0_endOrDull_98 ?_
              rintro r_11 M1_ rfl
              refine j_isub X dX0_endOrDull_101 ?_
              refine j_mmax X aw_457 aw_206 aw_203 aw_207 (by decide) (Nat.le_of_ble_eq_true rfl) (by decide) (by decide) dX0_endOrDull_102 ?_
              refine j_putN X (up (up M_10 49 7 (if ((M1 49 7) + r_9) < 99999 then ((M1 49 7) + r_9) else 99999)) (51 + i_1) 3 (if 0 < ((M_10 (51 + i_1) 3) - r_11) then ((M_10 (51 + i_1) 3) - r_11) else 0)) up_o (by omega) (wE_1 _ (kd_one49 (by omega))) rfl awF1 3 (by decide) (wP_1_3 _ _ (kd_one49 (by omega))) tyX1 tyX1_ok nmX1 rfl (ty := .int) (by decide +kernel) rfl rfl (Nat.le_of_ble_eq_true rfl) (List.mem_of_getElem? (i := 7) rfl) rfl dX0_endOrDull_105 ?_
              refine j_aload_n X 0 rfl rfl dX0_endOrDull_108 ?_
              refine j_sipush X (v := 999) (by decide) dX0_endOrDull_109 ?_
              refine j_aload_n X 0 rfl rfl dX0_endOrDull_112 ?_
              refine j_getN X (by omega) (wE_1 _ (kd_one49 (by omega))) rfl awF1 5 (by decide) (List.mem_of_getElem? (i := 11) rfl) rfl (v := .int ((up (up M_10 49 7 (if ((M1 49 7) + r_9) < 99999 then ((M1 49 7) + r_9) else 99999)) (51 + i_1) 3 (if 0 < ((M_10 (51 + i_1) 3) - r_11) then ((M_10 (51 + i_1) 3) - r_11) else 0)) (51 + i_1) 5)) rfl dX0_endOrDull_113 ?_
              refine j_eqi (v := M_10 (51 + i_1) 5) ((up_slot _ (by decide)).trans ((up_cell (by omega)).trans rfl)) ?_
              refine j_iconst X (v := 1) (by decide) dX0_endOrDull_116 ?_
              refine j_iadd X dX0_endOrDull_117 ?_
              refine j_mmin X aw_446 aw_202 aw_203 aw_204 (by decide) (Nat.le_of_ble_eq_true rfl) (by decide) (by decide) dX0_endOrDull_118 ?_
              refine j_putN X (up (up (up M_10 49 7 (if ((M1 49 7) + r_9) < 99999 then ((M1 49 7) + r_9) else 99999)) (51 + i_1) 3 (if 0 < ((M_10 (51 + i_1) 3) - r_11) then ((M_10 (51 + i_1) 3) - r_11) else 0)) (51 + i_1) 5 (if ((M_10 (51 + i_1) 5) + 1) < 999 then ((M_10 (51 + i_1) 5) + 1) else 999)) up_o (by omega) (wE_1 _ (kd_one49 (by omega))) rfl awF1 5 (by decide) (wP_1_5 _ _ (kd_one49 (by omega))) tyX1 tyX1_ok nmX1 rfl (ty := .int) (by decide +kernel) rfl rfl (Nat.le_of_ble_eq_true rfl) (List.mem_of_getElem? (i := 11) rfl) rfl dX0_endOrDull_121 ?_
              refine j_iinc X (v := (nI (i_1 + 1))) 1 [(2, .int (nI (i_1 + 1))), (3, .ref (ad (51 + i_1))), (0, .ref (ad 49)), (1, .int b1)] rfl (show nI i_1 + Int32.ofInt 1 = _ from nI_1 i_1) (by decide) rfl dX0_endOrDull_124 ?_
              refine j_goto X 2 (by decide) dX0_endOrDull_127 ?_
              refine j_lv (lv1 := [(2, .int (nI (i_1 + 1))), (0, .ref (ad 49)), (1, .int b1)]) [0, 2, 3] rfl ?_
              exact ih1 (i_1 + 1) _ (by omega) (by omega) (sm_up (sm_up (sm_up (sm_tr hs1 (sm_w s_8 (by intro b k hb; first | rfl | exact hb | (simp only [Bool.or_eq_false_iff, Bool.and_eq_false_iff, beq_eq_false_iff_ne, ne_eq, decide_eq_false_iff_not] at hb ⊢; omega)))) rfl) (by first | rfl | (simp; done) | (simp; omega) | (simp only [Bool.and_eq_true, Bool.or_eq_true, decide_eq_true_eq, beq_iff_eq]; omega))) (by first | rfl | (simp; done) | (simp; omega) | (simp only [Bool.and_eq_true, Bool.or_eq_true, decide_eq_true_eq, beq_iff_eq]; omega))) (sme_keep (P := (fun b k => b == 6 || b == 11 || (b == 49 && (k == 4 || k == 6 || k == 7 || k == 8)) || (decide (51 ≤ b) && decide (b ≤ 59) && (k == 3 || k == 5)))) (sme_keep (P := (fun b k => b == 6 || b == 11 || (b == 49 && (k == 4 || k == 6 || k == 7 || k == 8)) || (decide (51 ≤ b) && decide (b ≤ 59) && (k == 3 || k == 5)))) (sme_keep (P := (fun b k => b == 6 || b == 11 || (b == 49 && (k == 4 || k == 6 || k == 7 || k == 8)) || (decide (51 ≤ b) && decide (b ≤ 59) && (k == 3 || k == 5)))) (sme_keep hvi_1 s_8 (fun q hq => by first | rfl | (simp; done) | (simp; omega))) (sm_up sm_rf (by first | rfl | (simp; done) | (simp; omega) | (simp only [Bool.and_eq_true, Bool.or_eq_true, decide_eq_true_eq, beq_iff_eq]; omega))) (fun q hq => by first | rfl | (simp; done) | (simp; omega))) (sm_up sm_rf (by first | rfl | (simp; done) | (simp; omega) | (simp only [Bool.and_eq_true, Bool.or_eq_true, decide_eq_true_eq, beq_iff_eq]; omega))) (fun q hq => by first | rfl | (simp; done) | (simp; omega))) (sm_up sm_rf (by first | rfl | (simp; done) | (simp; omega) | (simp only [Bool.and_eq_true, Bool.or_eq_true, decide_eq_true_eq, beq_iff_eq]; omega))) (fun q hq => by first | rfl | (simp; done) | (simp; omega)))
          · have qc_5 := ti_nlt (a := (M1 (51 + i_1) 3).toInt) (b := r_4.toInt) rfl rfl c_5
            refine j_aload_n X 2 rfl rfl dX0_endOrDull_38 ?_
            refine j_aload_n X 0 rfl rfl dX0_endOrDull_39 ?_
            refine j_callVI X (nn := 1) (As := [.ref (ad (51 + i_1))]) (st := []) (ci := 0) (by decide) (wE_0 _ rfl) rfl aw_459 aw_460 (g_isFree_49 l D y ad M1 n (by omega) ((hs1 49 3 rfl).trans hm) i_1 (by omega)) aw_458 aw_461 aw_20 (by decide +kernel) ⟨by decide, by decide⟩ rfl (Nat.le_of_ble_eq_true rfl) ⟨by decide, by decide⟩ dX0_endOrDull_40 ?_
            rintro r_ M1_ (⟨rfl, rfl⟩ | ⟨rfl, rfl⟩)
            · refine j_if_eq X 54 (by decide) dX0_endOrDull_43 (fun c_12 => ?_) (fun c_12 => False.elim (by revert c_12; decide))
              refine j_iload_n X 3 rfl rfl dX0_endOrDull_54 ?_
              refine j_if_eq X 91 (by decide) dX0_endOrDull_55 (fun c_13 => ?_) (fun c_13 => ?_)
              · have qc_13 := ti_eq (n := 0) (by decide) c_13
                refine j_aload_n X 0 rfl rfl dX0_endOrDull_91 ?_
                refine j_iconst X (v := 0) (by decide) dX0_endOrDull_92 ?_
                refine j_aload_n X 0 rfl rfl dX0_endOrDull_93 ?_
                refine j_getN X (by omega) (wE_1 _ (kd_one49 (by omega))) rfl awF1 3 (by decide) (List.mem_of_getElem? (i := 7) rfl) rfl (v := .int (M1 (51 + i_1) 3)) rfl dX0_endOrDull_94 ?_
                refine j_aload_n X 0 rfl rfl dX0_endOrDull_97 ?_
                refine j_callVNI X (nn := 0) (As := []) (st := [.int (M1 (51 + i_1) 3), .int 0, .ref (ad (51 + i_1))]) (ci := 1) (by omega) (wE_1 _ (kd_one49 (by omega))) rfl aw_223 aw_224 (g_dulls l D y ad M1 (51 + i_1) (by omega) (kd_one49 (by omega))) (List.mem_of_getElem? (i := 30) rfl) aw_225 aw_65 (by decide +kernel) ⟨by decide, by decide⟩ rfl (Nat.le_of_ble_eq_true rfl) ⟨by decide, by decide⟩ dX0_endOrDull_98 ?_
                rintro r_14 M1_ rfl
                refine j_isub X dX0_endOrDull_101 ?_
                refine j_mmax X aw_457 aw_206 aw_203 aw_207 (by decide) (Nat.le_of_ble_eq_true rfl) (by decide) (by decide) dX0_endOrDull_102 ?_
                refine j_putN X (up M1 (51 + i_1) 3 (if 0 < ((M1 (51 + i_1) 3) - r_14) then ((M1 (51 + i_1) 3) - r_14) else 0)) up_o (by omega) (wE_1 _ (kd_one49 (by omega))) rfl awF1 3 (by decide) (wP_1_3 _ _ (kd_one49 (by omega))) tyX1 tyX1_ok nmX1 rfl (ty := .int) (by decide +kernel) rfl rfl (Nat.le_of_ble_eq_true rfl) (List.mem_of_getElem? (i := 7) rfl) rfl dX0_endOrDull_105 ?_
                refine j_aload_n X 0 rfl rfl dX0_endOrDull_108 ?_
                refine j_sipush X (v := 999) (by decide) dX0_endOrDull_109 ?_
                refine j_aload_n X 0 rfl rfl dX0_endOrDull_112 ?_
                refine j_getN X (by omega) (wE_1 _ (kd_one49 (by omega))) rfl awF1 5 (by decide) (List.mem_of_getElem? (i := 11) rfl) rfl (v := .int ((up M1 (51 + i_1) 3 (if 0 < ((M1 (51 + i_1) 3) - r_14) then ((M1 (51 + i_1) 3) - r_14) else 0)) (51 + i_1) 5)) rfl dX0_endOrDull_113 ?_
                refine j_eqi (v := M1 (51 + i_1) 5) ((up_slot _ (by decide)).trans rfl) ?_
                refine j_iconst X (v := 1) (by decide) dX0_endOrDull_116 ?_
                refine j_iadd X dX0_endOrDull_117 ?_
                refine j_mmin X aw_446 aw_202 aw_203 aw_204 (by decide) (Nat.le_of_ble_eq_true rfl) (by decide) (by decide) dX0_endOrDull_118 ?_
                refine j_putN X (up (up M1 (51 + i_1) 3 (if 0 < ((M1 (51 + i_1) 3) - r_14) then ((M1 (51 + i_1) 3) - r_14) else 0)) (51 + i_1) 5 (if ((M1 (51 + i_1) 5) + 1) < 999 then ((M1 (51 + i_1) 5) + 1) else 999)) up_o (by omega) (wE_1 _ (kd_one49 (by omega))) rfl awF1 5 (by decide) (wP_1_5 _ _ (kd_one49 (by omega))) tyX1 tyX1_ok nmX1 rfl (ty := .int) (by decide +kernel) rfl rfl (Nat.le_of_ble_eq_true rfl) (List.mem_of_getElem? (i := 11) rfl) rfl dX0_endOrDull_121 ?_
                refine j_iinc X (v := (nI (i_1 + 1))) 1 [(2, .int (nI (i_1 + 1))), (3, .ref (ad (51 + i_1))), (0, .ref (ad 49)), (1, .int b1)] rfl (show nI i_1 + Int32.ofInt 1 = _ from nI_1 i_1) (by decide) rfl dX0_endOrDull_124 ?_
                refine j_goto X 2 (by decide) dX0_endOrDull_127 ?_
                refine j_lv (lv1 := [(2, .int (nI (i_1 + 1))), (0, .ref (ad 49)), (1, .int b1)]) [0, 2, 3] rfl ?_
                exact ih1 (i_1 + 1) _ (by omega) (by omega) (sm_up (sm_up hs1 (by first | rfl | (simp; done) | (simp; omega) | (simp only [Bool.and_eq_true, Bool.or_eq_true, decide_eq_true_eq, beq_iff_eq]; omega))) (by first | rfl | (simp; done) | (simp; omega) | (simp only [Bool.and_eq_true, Bool.or_eq_true, decide_eq_true_eq, beq_iff_eq]; omega))) (sme_keep (P := (fun b k => b == 6 || b == 11 || (b == 49 && (k == 4 || k == 6 || k == 7 || k == 8)) || (decide (51 ≤ b) && decide (b ≤ 59) && (k == 3 || k == 5)))) (sme_keep (P := (fun b k => b == 6 || b == 11 || (b == 49 && (k == 4 || k == 6 || k == 7 || k == 8)) || (decide (51 ≤ b) && decide (b ≤ 59) && (k == 3 || k == 5)))) hvi_1 (sm_up sm_rf (by first | rfl | (simp; done) | (simp; omega) | (simp only [Bool.and_eq_true, Bool.or_eq_true, decide_eq_true_eq, beq_iff_eq]; omega))) (fun q hq => by first | rfl | (simp; done) | (simp; omega))) (sm_up sm_rf (by first | rfl | (simp; done) | (simp; omega) | (simp only [Bool.and_eq_true, Bool.or_eq_true, decide_eq_true_eq, beq_iff_eq]; omega))) (fun q hq => by first | rfl | (simp; done) | (simp; omega)))
              · have qc_13 := ti_ne (n := 0) (by decide) c_13
                refine j_aload_n X 2 rfl rfl dX0_endOrDull_58 ?_
                refine j_ldc X (v := 99999) aw_447 dX0_endOrDull_59 ?_
                refine j_aload_n X 2 rfl rfl dX0_endOrDull_61 ?_
                refine j_get X (by decide) (wE_0 _ rfl) rfl awF0 7 (by decide) aw_125 rfl (v := .int (M1 49 7)) rfl dX0_endOrDull_62 ?_
                refine j_aload_n X 2 rfl rfl dX0_endOrDull_65 ?_
                refine j_get X (by decide) (wE_0 _ rfl) rfl awF0 1 (by decide) aw_63 rfl (v := .ref (ad 7)) rfl dX0_endOrDull_66 ?_
                refine j_aload_n X 0 rfl rfl dX0_endOrDull_69 ?_
                refine j_getN X (by omega) (wE_1 _ (kd_one49 (by omega))) rfl awF1 3 (by decide) (List.mem_of_getElem? (i := 7) rfl) rfl (v := .int (M1 (51 + i_1) 3)) rfl dX0_endOrDull_70 ?_
                refine j_aload_n X 0 rfl rfl dX0_endOrDull_73 ?_
                refine j_getN X (by omega) (wE_1 _ (kd_one49 (by omega))) rfl awF1 5 (by decide) (List.mem_of_getElem? (i := 11) rfl) rfl (v := .int (M1 (51 + i_1) 5)) rfl dX0_endOrDull_74 ?_
                refine j_aload_n X 0 rfl rfl dX0_endOrDull_77 ?_
                refine j_getN X (by omega) (wE_1 _ (kd_one49 (by omega))) rfl awF1 1 (by decide) (List.mem_of_getElem? (i := 3) rfl) rfl (v := .int (M1 (51 + i_1) 1)) rfl dX0_endOrDull_78 ?_
                refine j_callVNI X (nn := 3) (As := [.int (M1 (51 + i_1) 3), .int (M1 (51 + i_1) 5), .int (M1 (51 + i_1) 1)]) (st := [.int (M1 49 7), .int 99999, .ref (ad 49)]) (ci := 4) (by decide) (wE_4 _ rfl) rfl aw_198 aw_199 (g_gives_7 l D y ad M1 z7 (TextOK_keep (P := (fun b k => b == 6 || b == 11 || (b == 49 && (k == 4 || k == 6 || k == 7 || k == 8)) || (decide (51 ≤ b) && decide (b ≤ 59) && (k == 3 || k == 5 || k == 6)))) (sm_tr sm_rf (sm_w hs1 (by intro b k hb; first | rfl | exact hb | (simp only [Bool.or_eq_false_iff, Bool.and_eq_false_iff, beq_eq_false_iff_ne, ne_eq, decide_eq_false_iff_not] at hb ⊢; omega)))) (fun _ => rfl) (fun _ => rfl) (fun _ => rfl) (fun _ => rfl) hT7) (M1 (51 + i_1) 3) (M1 (51 + i_1) 5) (M1 (51 + i_1) 1)) (List.mem_of_getElem? (i := 14) rfl) aw_200 aw_41 (by decide +kernel) ⟨by decide, by decide⟩ rfl (Nat.le_of_ble_eq_true rfl) ⟨by decide, by decide⟩ dX0_endOrDull_81 ?_
                rintro r_16 M_17 s_15
                refine j_iadd X dX0_endOrDull_84 ?_
                refine j_mmin X aw_446 aw_202 aw_203 aw_204 (by decide) (Nat.le_of_ble_eq_true rfl) (by decide) (by decide) dX0_endOrDull_85 ?_
                refine j_put X (up M_17 49 7 (if ((M1 49 7) + r_16) < 99999 then ((M1 49 7) + r_16) else 99999)) up_o (by decide) (wE_0 _ rfl) rfl awF0 7 (by decide) (wP_0_7 _ _ rfl) tyX0 tyX0_ok nmX0 rfl (ty := .int) (by decide +kernel) rfl rfl (Nat.le_of_ble_eq_true rfl) aw_125 rfl dX0_endOrDull_88 ?_
                refine j_aload_n X 0 rfl rfl dX0_endOrDull_91 ?_
                refine j_iconst X (v := 0) (by decide) dX0_endOrDull_92 ?_
                refine j_aload_n X 0 rfl rfl dX0_endOrDull_93 ?_
                refine j_getN X (by omega) (wE_1 _ (kd_one49 (by omega))) rfl awF1 3 (by decide) (List.mem_of_getElem? (i := 7) rfl) rfl (v := .int ((up M_17 49 7 (if ((M1 49 7) + r_16) < 99999 then ((M1 49 7) + r_16) else 99999)) (51 + i_1) 3)) rfl dX0_endOrDull_94 ?_
                refine j_eqi (v := M_17 (51 + i_1) 3) ((up_cell (by omega)).trans rfl) ?_
                refine j_aload_n X 0 rfl rfl dX0_endOrDull_97 ?_
                refine j_callVNI X (nn := 0) (As := []) (st := [.int (M_17 (51 + i_1) 3), .int 0, .ref (ad (51 + i_1))]) (ci := 1) (by omega) (wE_1 _ (kd_one49 (by omega))) rfl aw_223 aw_224 (g_dulls l D y ad (up M_17 49 7 (if ((M1 49 7) + r_16) < 99999 then ((M1 49 7) + r_16) else 99999)) (51 + i_1) (by omega) (kd_one49 (by omega))) (List.mem_of_getElem? (i := 30) rfl) aw_225 aw_65 (by decide +kernel) ⟨by decide, by decide⟩ rfl (Nat.le_of_ble_eq_true rfl) ⟨by decide, by decide⟩ dX0_endOrDull_98 ?_
                rintro r_18 M1_ rfl
                refine j_isub X dX0_endOrDull_101 ?_
                refine j_mmax X aw_457 aw_206 aw_203 aw_207 (by decide) (Nat.le_of_ble_eq_true rfl) (by decide) (by decide) dX0_endOrDull_102 ?_
                refine j_putN X (up (up M_17 49 7 (if ((M1 49 7) + r_16) < 99999 then ((M1 49 7) + r_16) else 99999)) (51 + i_1) 3 (if 0 < ((M_17 (51 + i_1) 3) - r_18) then ((M_17 (51 + i_1) 3) - r_18) else 0)) up_o (by omega) (wE_1 _ (kd_one49 (by omega))) rfl awF1 3 (by decide) (wP_1_3 _ _ (kd_one49 (by omega))) tyX1 tyX1_ok nmX1 rfl (ty := .int) (by decide +kernel) rfl rfl (Nat.le_of_ble_eq_true rfl) (List.mem_of_getElem? (i := 7) rfl) rfl dX0_endOrDull_105 ?_
                refine j_aload_n X 0 rfl rfl dX0_endOrDull_108 ?_
                refine j_sipush X (v := 999) (by decide) dX0_endOrDull_109 ?_
                refine j_aload_n X 0 rfl rfl dX0_endOrDull_112 ?_
                refine j_getN X (by omega) (wE_1 _ (kd_one49 (by omega))) rfl awF1 5 (by decide) (List.mem_of_getElem? (i := 11) rfl) rfl (v := .int ((up (up M_17 49 7 (if ((M1 49 7) + r_16) < 99999 then ((M1 49 7) + r_16) else 99999)) (51 + i_1) 3 (if 0 < ((M_17 (51 + i_1) 3) - r_18) then ((M_17 (51 + i_1) 3) - r_18) else 0)) (51 + i_1) 5)) rfl dX0_endOrDull_113 ?_
                refine j_eqi (v := M_17 (51 + i_1) 5) ((up_slot _ (by decide)).trans ((up_cell (by omega)).trans rfl)) ?_
                refine j_iconst X (v := 1) (by decide) dX0_endOrDull_116 ?_
                refine j_iadd X dX0_endOrDull_117 ?_
                refine j_mmin X aw_446 aw_202 aw_203 aw_204 (by decide) (Nat.le_of_ble_eq_true rfl) (by decide) (by decide) dX0_endOrDull_118 ?_
                refine j_putN X (up (up (up M_17 49 7 (if ((M1 49 7) + r_16) < 99999 then ((M1 49 7) + r_16) else 99999)) (51 + i_1) 3 (if 0 < ((M_17 (51 + i_1) 3) - r_18) then ((M_17 (51 + i_1) 3) - r_18) else 0)) (51 + i_1) 5 (if ((M_17 (51 + i_1) 5) + 1) < 999 then ((M_17 (51 + i_1) 5) + 1) else 999)) up_o (by omega) (wE_1 _ (kd_one49 (by omega))) rfl awF1 5 (by decide) (wP_1_5 _ _ (kd_one49 (by omega))) tyX1 tyX1_ok nmX1 rfl (ty := .int) (by decide +kernel) rfl rfl (Nat.le_of_ble_eq_true rfl) (List.mem_of_getElem? (i := 11) rfl) rfl dX0_endOrDull_121 ?_
                refine j_iinc X (v := (nI (i_1 + 1))) 1 [(2, .int (nI (i_1 + 1))), (3, .ref (ad (51 + i_1))), (0, .ref (ad 49)), (1, .int b1)] rfl (show nI i_1 + Int32.ofInt 1 = _ from nI_1 i_1) (by decide) rfl dX0_endOrDull_124 ?_
                refine j_goto X 2 (by decide) dX0_endOrDull_127 ?_
                refine j_lv (lv1 := [(2, .int (nI (i_1 + 1))), (0, .ref (ad 49)), (1, .int b1)]) [0, 2, 3] rfl ?_
                exact ih1 (i_1 + 1) _ (by omega) (by omega) (sm_up (sm_up (sm_up (sm_tr hs1 (sm_w s_15 (by intro b k hb; first | rfl | exact hb | (simp only [Bool.or_eq_false_iff, Bool.and_eq_false_iff, beq_eq_false_iff_ne, ne_eq, decide_eq_false_iff_not] at hb ⊢; omega)))) rfl) (by first | rfl | (simp; done) | (simp; omega) | (simp only [Bool.and_eq_true, Bool.or_eq_true, decide_eq_true_eq, beq_iff_eq]; omega))) (by first | rfl | (simp; done) | (simp; omega) | (simp only [Bool.and_eq_true, Bool.or_eq_true, decide_eq_true_eq, beq_iff_eq]; omega))) (sme_keep (P := (fun b k => b == 6 || b == 11 || (b == 49 && (k == 4 || k == 6 || k == 7 || k == 8)) || (decide (51 ≤ b) && decide (b ≤ 59) && (k == 3 || k == 5)))) (sme_keep (P := (fun b k => b == 6 || b == 11 || (b == 49 && (k == 4 || k == 6 || k == 7 || k == 8)) || (decide (51 ≤ b) && decide (b ≤ 59) && (k == 3 || k == 5)))) (sme_keep (P := (fun b k => b == 6 || b == 11 || (b == 49 && (k == 4 || k == 6 || k == 7 || k == 8)) || (decide (51 ≤ b) && decide (b ≤ 59) && (k == 3 || k == 5)))) (sme_keep hvi_1 s_15 (fun q hq => by first | rfl | (simp; done) | (simp; omega))) (sm_up sm_rf (by first | rfl | (simp; done) | (simp; omega) | (simp only [Bool.and_eq_true, Bool.or_eq_true, decide_eq_true_eq, beq_iff_eq]; omega))) (fun q hq => by first | rfl | (simp; done) | (simp; omega))) (sm_up sm_rf (by first | rfl | (simp; done) | (simp; omega) | (simp only [Bool.and_eq_true, Bool.or_eq_true, decide_eq_true_eq, beq_iff_eq]; omega))) (fun q hq => by first | rfl | (simp; done) | (simp; omega))) (sm_up sm_rf (by first | rfl | (simp; done) | (simp; omega) | (simp only [Bool.and_eq_true, Bool.or_eq_true, decide_eq_true_eq, beq_iff_eq]; omega))) (fun q hq => by first | rfl | (simp; done) | (simp; omega)))
            · refine j_if_eq X 54 (by decide) dX0_endOrDull_43 (fun c_19 => False.elim (by revert c_19; decide)) (fun c_19 => ?_)
              refine j_aload_n X 0 rfl rfl dX0_endOrDull_46 ?_
              refine j_iconst X (v := 1) (by decide) dX0_endOrDull_47 ?_
              refine j_putN X (up M1 (51 + i_1) 6 1) up_o (by omega) (wE_1 _ (kd_one49 (by omega))) rfl awF1 6 (by decide) (wP_1_6 _ _ (kd_one49 (by omega))) tyX1 tyX1_ok nmX1 rfl (ty := .boolean) (by decide +kernel) rfl rfl (Nat.le_of_ble_eq_true rfl) (List.mem_of_getElem? (i := 13) rfl) rfl dX0_endOrDull_48 ?_
              refine j_goto X 124 (by decide) dX0_endOrDull_51 ?_
              refine j_iinc X (v := (nI (i_1 + 1))) 1 [(2, .int (nI (i_1 + 1))), (3, .ref (ad (51 + i_1))), (0, .ref (ad 49)), (1, .int b1)] rfl (show nI i_1 + Int32.ofInt 1 = _ from nI_1 i_1) (by decide) rfl dX0_endOrDull_124 ?_
              refine j_goto X 2 (by decide) dX0_endOrDull_127 ?_
              refine j_lv (lv1 := [(2, .int (nI (i_1 + 1))), (0, .ref (ad 49)), (1, .int b1)]) [0, 2, 3] rfl ?_
              exact ih1 (i_1 + 1) _ (by omega) (by omega) (sm_up hs1 (by first | rfl | (simp; done) | (simp; omega) | (simp only [Bool.and_eq_true, Bool.or_eq_true, decide_eq_true_eq, beq_iff_eq]; omega))) (sme_set hvi_1)
        · have qc_3 := ti_ne (n := 0) (by decide) c_3
          refine j_goto X 124 (by decide) dX0_endOrDull_24 ?_
          refine j_iinc X (v := (nI (i_1 + 1))) 1 [(2, .int (nI (i_1 + 1))), (3, .ref (ad (51 + i_1))), (0, .ref (ad 49)), (1, .int b1)] rfl (show nI i_1 + Int32.ofInt 1 = _ from nI_1 i_1) (by decide) rfl dX0_endOrDull_124 ?_
          refine j_goto X 2 (by decide) dX0_endOrDull_127 ?_
          refine j_lv (lv1 := [(2, .int (nI (i_1 + 1))), (0, .ref (ad 49)), (1, .int b1)]) [0, 2, 3] rfl ?_
          exact ih1 (i_1 + 1) _ (by omega) (by omega) hs1 hvi_1
  refine j_lv (lv1 := [(2, .int (nI 0)), (0, .ref (ad 49)), (1, .int b1)]) [0, 1, 2] rfl ?_
  exact loop1 (n + 1) 0 _ (by omega) (by omega) sm_rf sme_rf
set_option maxRecDepth 100000 in
set_option maxHeartbeats 4000000 in
theorem g_restDay_49 (l : Launch) (D : va_G) (y : wY) (ad : Nat → Nat) (M : Mem) (n : Nat) (hn : n ≤ 9) (hm : M 49 3 = nI n) (z2 z7 : Nat) (hT2 : TextOK M 2 z2) (hT7 : TextOK M 7 z7) (b1 : Int32) : MV l D y ad yX0_restDay (Cond.code yX0_restDay cX0_restDay 2 none) 5 M [.ref (ad 49), .int b1] (fun M' => sm (fun b k => b == 6 || b == 11 || (b == 49 && (k == 4 || k == 6 || k == 7 || k == 8)) || (decide (51 ≤ b) && decide (b ≤ 59) && (k == 3 || k == 5 || k == 6))) M M' ∧ sme 51 M M') := by
  refine MV_of (by decide) (Nat.le_of_ble_eq_true rfl) ?_
  intro p e s m args below meth c X hr hlocks
  refine j_lv (lv1 := [(0, .ref (ad 49)), (1, .int b1)]) [0, 1] rfl ?_
  refine j_aload_n X 0 rfl rfl dX0_restDay_0 ?_
  refine j_iload_n X 1 rfl rfl dX0_restDay_1 ?_
  refine j_callVV X (nn := 1) (As := [.int b1]) (st := []) (ci := 0) (by decide) (wE_0 _ rfl) rfl aw_454 aw_455 (g_endOrDull_49 l D y ad M n (by omega) hm z2 z7 hT2 hT7 b1) aw_453 aw_456 aw_20 (by decide +kernel) ⟨by decide, by decide⟩ rfl (Nat.le_of_ble_eq_true rfl) ⟨by decide, by decide⟩ dX0_restDay_2 ?_
  rintro M_2 ⟨s_1, s_1_e⟩
  refine j_aload_n X 0 rfl rfl dX0_restDay_5 ?_
  refine j_aload_n X 0 rfl rfl dX0_restDay_6 ?_
  refine j_get X (by decide) (wE_0 _ rfl) rfl awF0 4 (by decide) aw_124 rfl (v := .int (M_2 49 4)) rfl dX0_restDay_7 ?_
  refine j_aload_n X 0 rfl rfl dX0_restDay_10 ?_
  refine j_get X (by decide) (wE_0 _ rfl) rfl awF0 5 (by decide) aw_61 rfl (v := .int (M_2 49 5)) rfl dX0_restDay_11 ?_
  refine j_iadd X dX0_restDay_14 ?_
  refine j_bipush X (v := 10) (by decide) dX0_restDay_15 ?_
  refine j_irem X (by decide) dX0_restDay_17 ?_
  refine j_put X (up M_2 49 4 (((M_2 49 4) + (M_2 49 5)) - ((M_2 49 4) + (M_2 49 5)) / 10 * 10)) up_o (by decide) (wE_0 _ rfl) rfl awF0 4 (by decide) (wP_0_4 _ _ rfl) tyX0 tyX0_ok nmX0 rfl (ty := .int) (by decide +kernel) rfl rfl (Nat.le_of_ble_eq_true rfl) aw_124 rfl dX0_restDay_18 ?_
  refine j_aload_n X 0 rfl rfl dX0_restDay_21 ?_
  refine j_dup X rfl dX0_restDay_22 ?_
  refine j_get X (by decide) (wE_0 _ rfl) rfl awF0 6 (by decide) aw_197 rfl (v := .int ((up M_2 49 4 (((M_2 49 4) + (M_2 49 5)) - ((M_2 49 4) + (M_2 49 5)) / 10 * 10)) 49 6)) rfl dX0_restDay_23 ?_
  refine j_eqi (v := M_2 49 6) ((up_slot _ (by decide)).trans rfl) ?_
  refine j_iconst X (v := 1) (by decide) dX0_restDay_26 ?_
  refine j_iadd X dX0_restDay_27 ?_
  refine j_put X (up (up M_2 49 4 (((M_2 49 4) + (M_2 49 5)) - ((M_2 49 4) + (M_2 49 5)) / 10 * 10)) 49 6 ((M_2 49 6) + 1)) up_o (by decide) (wE_0 _ rfl) rfl awF0 6 (by decide) (wP_0_6 _ _ rfl) tyX0 tyX0_ok nmX0 rfl (ty := .int) (by decide +kernel) rfl rfl (Nat.le_of_ble_eq_true rfl) aw_197 rfl dX0_restDay_28 ?_
  exact j_vret X hr hlocks dX0_restDay_31 ⟨(sm_up (sm_up (sm_tr sm_rf (sm_w s_1 (by intro b k hb; first | rfl | exact hb | (simp only [Bool.or_eq_false_iff, Bool.and_eq_false_iff, beq_eq_false_iff_ne, ne_eq, decide_eq_false_iff_not] at hb ⊢; omega)))) rfl) rfl), (sme_keep (P := (fun b k => b == 6 || b == 11 || (b == 49 && (k == 4 || k == 6 || k == 7 || k == 8)) || (decide (51 ≤ b) && decide (b ≤ 59) && (k == 3 || k == 5)))) (sme_keep (P := (fun b k => b == 6 || b == 11 || (b == 49 && (k == 4 || k == 6 || k == 7 || k == 8)) || (decide (51 ≤ b) && decide (b ≤ 59) && (k == 3 || k == 5)))) (sme_tr sme_rf s_1_e) (sm_up sm_rf (by first | rfl | (simp; done) | (simp; omega) | (simp only [Bool.and_eq_true, Bool.or_eq_true, decide_eq_true_eq, beq_iff_eq]; omega))) (fun q hq => by first | rfl | (simp; done) | (simp; omega))) (sm_up sm_rf (by first | rfl | (simp; done) | (simp; omega) | (simp only [Bool.and_eq_true, Bool.or_eq_true, decide_eq_true_eq, beq_iff_eq]; omega))) (fun q hq => by first | rfl | (simp; done) | (simp; omega)))⟩
set_option maxRecDepth 100000 in
set_option maxHeartbeats 4000000 in
theorem g_passDay_49 (l : Launch) (D : va_G) (y : wY) (ad : Nat → Nat) (M : Mem) (n : Nat) (hn : n ≤ 9) (hm : M 49 3 = nI n) (z2 z7 : Nat) (hT2 : TextOK M 2 z2) (hT7 : TextOK M 7 z7) (b1 : Int32) : MV l D y ad yX0_passDay (Cond.code yX0_passDay cX0_passDay 2 none) 6 M [.ref (ad 49), .int b1] (fun M' => sm (fun b k => b == 6 || b == 11 || (b == 49 && (k == 4 || k == 6 || k == 7 || k == 8)) || (decide (51 ≤ b) && decide (b ≤ 59) && (k == 3 || k == 5 || k == 6))) M M' ∧ sme 51 M M') := by
  refine MV_of (by decide) (Nat.le_of_ble_eq_true rfl) ?_
  intro p e s m args below meth c X hr hlocks
  refine j_lv (lv1 := [(0, .ref (ad 49)), (1, .int b1)]) [0, 1] rfl ?_
  refine j_aload_n X 0 rfl rfl dX0_passDay_0 ?_
  refine j_callVV X (nn := 0) (As := []) (st := []) (ci := 0) (by decide) (wE_0 _ rfl) rfl aw_443 aw_444 (g_grindArea_49 l D y ad M n (by omega) hm z2 z7 hT2 hT7) aw_442 aw_445 aw_20 (by decide +kernel) ⟨by decide, by decide⟩ rfl (Nat.le_of_ble_eq_true rfl) ⟨by decide, by decide⟩ dX0_passDay_1 ?_
  rintro M_2 s_1
  refine j_aload_n X 0 rfl rfl dX0_passDay_4 ?_
  refine j_iload_n X 1 rfl rfl dX0_passDay_5 ?_
  refine j_callVV X (nn := 1) (As := [.int b1]) (st := []) (ci := 0) (by decide) (wE_0 _ rfl) rfl aw_450 aw_451 (g_restDay_49 l D y ad M_2 n (by omega) ((s_1 49 3 rfl).trans hm) z2 z7 (TextOK_keep (P := (fun b k => b == 6 || b == 11 || (b == 49 && (k == 4 || k == 6 || k == 7 || k == 8)) || (decide (51 ≤ b) && decide (b ≤ 59) && (k == 3 || k == 5 || k == 6)))) (sm_tr sm_rf (sm_w s_1 (by intro b k hb; first | rfl | exact hb | (simp only [Bool.or_eq_false_iff, Bool.and_eq_false_iff, beq_eq_false_iff_ne, ne_eq, decide_eq_false_iff_not] at hb ⊢; omega)))) (fun _ => rfl) (fun _ => rfl) (fun _ => rfl) (fun _ => rfl) hT2) (TextOK_keep (P := (fun b k => b == 6 || b == 11 || (b == 49 && (k == 4 || k == 6 || k == 7 || k == 8)) || (decide (51 ≤ b) && decide (b ≤ 59) && (k == 3 || k == 5 || k == 6)))) (sm_tr sm_rf (sm_w s_1 (by intro b k hb; first | rfl | exact hb | (simp only [Bool.or_eq_false_iff, Bool.and_eq_false_iff, beq_eq_false_iff_ne, ne_eq, decide_eq_false_iff_not] at hb ⊢; omega)))) (fun _ => rfl) (fun _ => rfl) (fun _ => rfl) (fun _ => rfl) hT7) b1) aw_449 aw_452 aw_20 (by decide +kernel) ⟨by decide, by decide⟩ rfl (Nat.le_of_ble_eq_true rfl) ⟨by decide, by decide⟩ dX0_passDay_6 ?_
  rintro M_4 ⟨s_3, s_3_e⟩
  exact j_vret X hr hlocks dX0_passDay_9 ⟨(sm_tr (sm_tr sm_rf (sm_w s_1 (by intro b k hb; first | rfl | exact hb | (simp only [Bool.or_eq_false_iff, Bool.and_eq_false_iff, beq_eq_false_iff_ne, ne_eq, decide_eq_false_iff_not] at hb ⊢; omega)))) (sm_w s_3 (by intro b k hb; first | rfl | exact hb | (simp only [Bool.or_eq_false_iff, Bool.and_eq_false_iff, beq_eq_false_iff_ne, ne_eq, decide_eq_false_iff_not] at hb ⊢; omega)))), (sme_tr (sme_keep sme_rf s_1 (fun q hq => by first | rfl | (simp; done) | (simp; omega))) s_3_e)⟩
