theorem dX0_setInArea_0 : decode cX0_setInArea 0 = .ok (.iconst 0, 1) := by decide +kernel
theorem dX0_setInArea_1 : decode cX0_setInArea 1 = .ok (.istore_n 2, 1) := by decide +kernel
theorem dX0_setInArea_2 : decode cX0_setInArea 2 = .ok (.iconst 0, 1) := by decide +kernel
theorem dX0_setInArea_3 : decode cX0_setInArea 3 = .ok (.istore_n 3, 1) := by decide +kernel
theorem dX0_setInArea_4 : decode cX0_setInArea 4 = .ok (.iload_n 3, 1) := by decide +kernel
theorem dX0_setInArea_5 : decode cX0_setInArea 5 = .ok (.aload_n 0, 1) := by decide +kernel
theorem dX0_setInArea_6 : decode cX0_setInArea 6 = .ok (.getfield 29, 3) := by decide +kernel
theorem dX0_setInArea_9 : decode cX0_setInArea 9 = .ok (.if_icmp .ge 32, 3) := by decide +kernel
theorem dX0_setInArea_41 : decode cX0_setInArea 41 = .ok (.iload_n 2, 1) := by decide +kernel
theorem dX0_setInArea_42 : decode cX0_setInArea 42 = .ok (.ireturn, 1) := by decide +kernel
theorem dX0_setInArea_12 : decode cX0_setInArea 12 = .ok (.iload_n 2, 1) := by decide +kernel
theorem dX0_setInArea_13 : decode cX0_setInArea 13 = .ok (.aload_n 0, 1) := by decide +kernel
theorem dX0_setInArea_14 : decode cX0_setInArea 14 = .ok (.getfield 11, 3) := by decide +kernel
theorem dX0_setInArea_17 : decode cX0_setInArea 17 = .ok (.iload_n 3, 1) := by decide +kernel
theorem dX0_setInArea_18 : decode cX0_setInArea 18 = .ok (.aaload, 1) := by decide +kernel
theorem dX0_setInArea_19 : decode cX0_setInArea 19 = .ok (.getfield 58, 3) := by decide +kernel
theorem dX0_setInArea_22 : decode cX0_setInArea 22 = .ok (.iload_n 1, 1) := by decide +kernel
theorem dX0_setInArea_23 : decode cX0_setInArea 23 = .ok (.if_icmp .ne 9, 3) := by decide +kernel
theorem dX0_setInArea_32 : decode cX0_setInArea 32 = .ok (.iconst 0, 1) := by decide +kernel
theorem dX0_setInArea_33 : decode cX0_setInArea 33 = .ok (.ior, 1) := by decide +kernel
theorem dX0_setInArea_34 : decode cX0_setInArea 34 = .ok (.istore_n 2, 1) := by decide +kernel
theorem dX0_setInArea_35 : decode cX0_setInArea 35 = .ok (.iinc 3 1, 3) := by decide +kernel
theorem dX0_setInArea_38 : decode cX0_setInArea 38 = .ok (.goto (-34), 3) := by decide +kernel
theorem dX0_setInArea_26 : decode cX0_setInArea 26 = .ok (.iconst 1, 1) := by decide +kernel
theorem dX0_setInArea_27 : decode cX0_setInArea 27 = .ok (.iload_n 3, 1) := by decide +kernel
theorem dX0_setInArea_28 : decode cX0_setInArea 28 = .ok (.ishl, 1) := by decide +kernel
theorem dX0_setInArea_29 : decode cX0_setInArea 29 = .ok (.goto 4, 3) := by decide +kernel
theorem dX0_setEnded_0 : decode cX0_setEnded 0 = .ok (.iconst 0, 1) := by decide +kernel
theorem dX0_setEnded_1 : decode cX0_setEnded 1 = .ok (.istore_n 1, 1) := by decide +kernel
theorem dX0_setEnded_2 : decode cX0_setEnded 2 = .ok (.iconst 0, 1) := by decide +kernel
theorem dX0_setEnded_3 : decode cX0_setEnded 3 = .ok (.istore_n 2, 1) := by decide +kernel
theorem dX0_setEnded_4 : decode cX0_setEnded 4 = .ok (.iload_n 2, 1) := by decide +kernel
theorem dX0_setEnded_5 : decode cX0_setEnded 5 = .ok (.aload_n 0, 1) := by decide +kernel
theorem dX0_setEnded_6 : decode cX0_setEnded 6 = .ok (.getfield 29, 3) := by decide +kernel
theorem dX0_setEnded_9 : decode cX0_setEnded 9 = .ok (.if_icmp .ge 31, 3) := by decide +kernel
theorem dX0_setEnded_40 : decode cX0_setEnded 40 = .ok (.iload_n 1, 1) := by decide +kernel
theorem dX0_setEnded_41 : decode cX0_setEnded 41 = .ok (.ireturn, 1) := by decide +kernel
theorem dX0_setEnded_12 : decode cX0_setEnded 12 = .ok (.iload_n 1, 1) := by decide +kernel
theorem dX0_setEnded_13 : decode cX0_setEnded 13 = .ok (.aload_n 0, 1) := by decide +kernel
theorem dX0_setEnded_14 : decode cX0_setEnded 14 = .ok (.getfield 11, 3) := by decide +kernel
theorem dX0_setEnded_17 : decode cX0_setEnded 17 = .ok (.iload_n 2, 1) := by decide +kernel
theorem dX0_setEnded_18 : decode cX0_setEnded 18 = .ok (.aaload, 1) := by decide +kernel
theorem dX0_setEnded_19 : decode cX0_setEnded 19 = .ok (.getfield 61, 3) := by decide +kernel
theorem dX0_setEnded_22 : decode cX0_setEnded 22 = .ok (.ifCond .eq 9, 3) := by decide +kernel
theorem dX0_setEnded_31 : decode cX0_setEnded 31 = .ok (.iconst 0, 1) := by decide +kernel
theorem dX0_setEnded_32 : decode cX0_setEnded 32 = .ok (.ior, 1) := by decide +kernel
theorem dX0_setEnded_33 : decode cX0_setEnded 33 = .ok (.istore_n 1, 1) := by decide +kernel
theorem dX0_setEnded_34 : decode cX0_setEnded 34 = .ok (.iinc 2 1, 3) := by decide +kernel
theorem dX0_setEnded_37 : decode cX0_setEnded 37 = .ok (.goto (-33), 3) := by decide +kernel
theorem dX0_setEnded_25 : decode cX0_setEnded 25 = .ok (.iconst 1, 1) := by decide +kernel
theorem dX0_setEnded_26 : decode cX0_setEnded 26 = .ok (.iload_n 2, 1) := by decide +kernel
theorem dX0_setEnded_27 : decode cX0_setEnded 27 = .ok (.ishl, 1) := by decide +kernel
theorem dX0_setEnded_28 : decode cX0_setEnded 28 = .ok (.goto 4, 3) := by decide +kernel
theorem kd_one12 {q : Nat} (h : q < 9) : kd (14 + q) = 1 := by
  rcases (by omega : q = 0 ∨ q = 1 ∨ q = 2 ∨ q = 3 ∨ q = 4 ∨ q = 5 ∨ q = 6 ∨ q = 7 ∨ q = 8) with rfl | rfl | rfl | rfl | rfl | rfl | rfl | rfl | rfl <;> rfl
theorem kd_one49 {q : Nat} (h : q < 9) : kd (51 + q) = 1 := by
  rcases (by omega : q = 0 ∨ q = 1 ∨ q = 2 ∨ q = 3 ∨ q = 4 ∨ q = 5 ∨ q = 6 ∨ q = 7 ∨ q = 8) with rfl | rfl | rfl | rfl | rfl | rfl | rfl | rfl | rfl <;> rfl
theorem kd_one36 {q : Nat} (h : q < 9) : kd (38 + q) = 1 := by
  rcases (by omega : q = 0 ∨ q = 1 ∨ q = 2 ∨ q = 3 ∨ q = 4 ∨ q = 5 ∨ q = 6 ∨ q = 7 ∨ q = 8) with rfl | rfl | rfl | rfl | rfl | rfl | rfl | rfl | rfl <;> rfl
theorem rf_one12 {q : Nat} (h : q < 9) : rf 13 q = 14 + q := by
  rcases (by omega : q = 0 ∨ q = 1 ∨ q = 2 ∨ q = 3 ∨ q = 4 ∨ q = 5 ∨ q = 6 ∨ q = 7 ∨ q = 8) with rfl | rfl | rfl | rfl | rfl | rfl | rfl | rfl | rfl <;> rfl
theorem rf_one49 {q : Nat} (h : q < 9) : rf 50 q = 51 + q := by
  rcases (by omega : q = 0 ∨ q = 1 ∨ q = 2 ∨ q = 3 ∨ q = 4 ∨ q = 5 ∨ q = 6 ∨ q = 7 ∨ q = 8) with rfl | rfl | rfl | rfl | rfl | rfl | rfl | rfl | rfl <;> rfl
theorem rf_one36 {q : Nat} (h : q < 9) : rf 37 q = 38 + q := by
  rcases (by omega : q = 0 ∨ q = 1 ∨ q = 2 ∨ q = 3 ∨ q = 4 ∨ q = 5 ∨ q = 6 ∨ q = 7 ∨ q = 8) with rfl | rfl | rfl | rfl | rfl | rfl | rfl | rfl | rfl <;> rfl
/-- a set told by a test, of the first n -/
def setB (f : Nat → Bool) : Nat → Int32
  | 0 => 0
  | n + 1 => setB f n ||| (if f n = true then 1 <<< (nI n &&& 31) else 0)
set_option maxRecDepth 100000 in
set_option maxHeartbeats 4000000 in
theorem g_setInArea_12 (l : Launch) (D : va_G) (y : wY) (ad : Nat → Nat) (M : Mem) (n : Nat) (hn : n ≤ 9) (hm : M 12 3 = nI n) (a : Int32) : MI l D y ad yX0_setInArea (Cond.code yX0_setInArea cX0_setInArea 4 (some .int)) 0 M [.ref (ad 12), .int a] (fun r M' => setB (fun i => decide (M (14 + i) 2 = a)) n = r ∧ M = M') := by
  refine MI_of (by decide) (Nat.le_of_ble_eq_true rfl) ?_
  intro p e s m args below meth c X hr hlocks
  refine j_lv (lv1 := [(0, .ref (ad 12)), (1, .int a)]) [0, 1] rfl ?_
  refine j_iconst X (v := 0) (by decide) dX0_setInArea_0 ?_
  refine j_istore_n X [(2, .int 0), (0, .ref (ad 12)), (1, .int a)] rfl (by decide) rfl dX0_setInArea_1 ?_
  refine j_iconst X (v := 0) (by decide) dX0_setInArea_2 ?_
  refine j_istore_n X [(3, .int 0), (2, .int 0), (0, .ref (ad 12)), (1, .int a)] rfl (by decide) rfl dX0_setInArea_3 ?_
  have loop1 : ∀ (n_1 i_1 : Nat) (v2_i_1 : Int32), i_1 ≤ n → n - i_1 < n_1 → (v2_i_1 = setB (fun i => decide (M (14 + i) 2 = a)) i_1) → J p l e (rmN 0) s m args below meth c 0 0 (QI (fun r M' => setB (fun i => decide (M (14 + i) 2 = a)) n = r ∧ M = M') D y ad M s args below) D y ad (va_A (PL y ad M) s.heap.size) 4 M 4 [(3, .int (nI i_1)), (0, .ref (ad 12)), (1, .int a), (2, .int v2_i_1)] [] := by
    intro n_1
    induction n_1 with
    | zero => intro i_1  v2_i_1 h1 h2; exact absurd h2 (by omega)
    | succ n_1 ih1 =>
      intro i_1  v2_i_1 h1i_1 h2i_1  hv2_i_1
      refine j_iload_n X 0 rfl rfl dX0_setInArea_4 ?_
      refine j_aload_n X 1 rfl rfl dX0_setInArea_5 ?_
      refine j_get X (by decide) (wE_0 _ rfl) rfl awF0 3 (by decide) aw_155 rfl (v := .int (M 12 3)) rfl dX0_setInArea_6 ?_
      refine j_eqi (v := (nI n)) hm ?_
      refine j_icmp_ge X 41 (by decide) dX0_setInArea_9 (fun c_2 => ?_) (fun c_2 => ?_)
      · have c_2 := (nI_leI (by omega) (by omega)).mp (show nI (n) ≤ nI i_1 from c_2)
        refine j_iload_n X 3 rfl rfl dX0_setInArea_41 ?_
        exact j_iret X hr hlocks dX0_setInArea_42 ⟨by rw [hv2_i_1, show i_1 = n from by omega], rfl⟩
      · have c_2 : i_1 < n := by
          rcases Nat.lt_or_ge i_1 (n) with g | g
          · exact g
          · exact absurd (show nI (n) ≤ nI i_1 from nI_le g (by omega)) c_2
        refine j_iload_n X 3 rfl rfl dX0_setInArea_12 ?_
        refine j_aload_n X 1 rfl rfl dX0_setInArea_13 ?_
        refine j_get X (by decide) (wE_0 _ rfl) rfl awF0 2 (by decide) aw_60 rfl (v := .ref (ad 13)) rfl dX0_setInArea_14 ?_
        refine j_iload_n X 0 rfl rfl dX0_setInArea_17 ?_
        refine j_aald10 X (by decide) rfl (show vp_in (nI i_1) 9 from vp_in_nI (by omega) (by decide)) dX0_setInArea_18 ?_
        refine j_eqr (v := 14 + i_1) (by rw [nI_clamp (by omega)]; exact rf_one12 (by omega)) ?_
        refine j_getN X (by omega) (wE_1 _ (kd_one12 (by omega))) rfl awF1 2 (by decide) (List.mem_of_getElem? (i := 5) rfl) rfl (v := .int (M (14 + i_1) 2)) rfl dX0_setInArea_19 ?_
        refine j_iload_n X 2 rfl rfl dX0_setInArea_22 ?_
        refine j_icmp_ne X 32 (by decide) dX0_setInArea_23 (fun c_3 => ?_) (fun c_3 => ?_)
        · refine j_iconst X (v := 0) (by decide) dX0_setInArea_32 ?_
          refine j_ior X dX0_setInArea_33 ?_
          refine j_istore_n X [(2, .int (v2_i_1 ||| 0)), (3, .int (nI i_1)), (0, .ref (ad 12)), (1, .int a)] rfl (by decide) rfl dX0_setInArea_34 ?_
          refine j_iinc X (v := (nI (i_1 + 1))) 1 [(3, .int (nI (i_1 + 1))), (2, .int (v2_i_1 ||| 0)), (0, .ref (ad 12)), (1, .int a)] rfl (show nI i_1 + Int32.ofInt 1 = _ from nI_1 i_1) (by decide) rfl dX0_setInArea_35 ?_
          refine j_goto X 4 (by decide) dX0_setInArea_38 ?_
          refine j_lv (lv1 := [(3, .int (nI (i_1 + 1))), (0, .ref (ad 12)), (1, .int a), (2, .int (v2_i_1 ||| 0))]) [0, 2, 3, 1] rfl ?_
          exact ih1 (i_1 + 1) _ (by omega) (by omega)  (by rw [setB, hv2_i_1, if_neg (by simp [c_3])])
        · refine j_iconst X (v := 1) (by decide) dX0_setInArea_26 ?_
          refine j_iload_n X 0 rfl rfl dX0_setInArea_27 ?_
          refine j_ishl X dX0_setInArea_28 ?_
          refine j_goto X 33 (by decide) dX0_setInArea_29 ?_
          refine j_ior X dX0_setInArea_33 ?_
          refine j_istore_n X [(2, .int (v2_i_1 ||| (1 <<< ((nI i_1) &&& 31)))), (3, .int (nI i_1)), (0, .ref (ad 12)), (1, .int a)] rfl (by decide) rfl dX0_setInArea_34 ?_
          refine j_iinc X (v := (nI (i_1 + 1))) 1 [(3, .int (nI (i_1 + 1))), (2, .int (v2_i_1 ||| (1 <<< ((nI i_1) &&& 31)))), (0, .ref (ad 12)), (1, .int a)] rfl (show nI i_1 + Int32.ofInt 1 = _ from nI_1 i_1) (by decide) rfl dX0_setInArea_35 ?_
          refine j_goto X 4 (by decide) dX0_setInArea_38 ?_
          refine j_lv (lv1 := [(3, .int (nI (i_1 + 1))), (0, .ref (ad 12)), (1, .int a), (2, .int (v2_i_1 ||| (1 <<< ((nI i_1) &&& 31))))]) [0, 2, 3, 1] rfl ?_
          exact ih1 (i_1 + 1) _ (by omega) (by omega)  (by rw [setB, hv2_i_1, if_pos (by simp [c_3])])
  refine j_lv (lv1 := [(3, .int (nI 0)), (0, .ref (ad 12)), (1, .int a), (2, .int 0)]) [0, 2, 3, 1] rfl ?_
  exact loop1 (n + 1) 0 _ (by omega) (by omega) rfl
set_option maxRecDepth 100000 in
set_option maxHeartbeats 4000000 in
theorem g_setInArea_49 (l : Launch) (D : va_G) (y : wY) (ad : Nat → Nat) (M : Mem) (n : Nat) (hn : n ≤ 9) (hm : M 49 3 = nI n) (a : Int32) : MI l D y ad yX0_setInArea (Cond.code yX0_setInArea cX0_setInArea 4 (some .int)) 0 M [.ref (ad 49), .int a] (fun r M' => setB (fun i => decide (M (51 + i) 2 = a)) n = r ∧ M = M') := by
  refine MI_of (by decide) (Nat.le_of_ble_eq_true rfl) ?_
  intro p e s m args below meth c X hr hlocks
  refine j_lv (lv1 := [(0, .ref (ad 49)), (1, .int a)]) [0, 1] rfl ?_
  refine j_iconst X (v := 0) (by decide) dX0_setInArea_0 ?_
  refine j_istore_n X [(2, .int 0), (0, .ref (ad 49)), (1, .int a)] rfl (by decide) rfl dX0_setInArea_1 ?_
  refine j_iconst X (v := 0) (by decide) dX0_setInArea_2 ?_
  refine j_istore_n X [(3, .int 0), (2, .int 0), (0, .ref (ad 49)), (1, .int a)] rfl (by decide) rfl dX0_setInArea_3 ?_
  have loop1 : ∀ (n_1 i_1 : Nat) (v2_i_1 : Int32), i_1 ≤ n → n - i_1 < n_1 → (v2_i_1 = setB (fun i => decide (M (51 + i) 2 = a)) i_1) → J p l e (rmN 0) s m args below meth c 0 0 (QI (fun r M' => setB (fun i => decide (M (51 + i) 2 = a)) n = r ∧ M = M') D y ad M s args below) D y ad (va_A (PL y ad M) s.heap.size) 4 M 4 [(3, .int (nI i_1)), (0, .ref (ad 49)), (1, .int a), (2, .int v2_i_1)] [] := by
    intro n_1
    induction n_1 with
    | zero => intro i_1  v2_i_1 h1 h2; exact absurd h2 (by omega)
    | succ n_1 ih1 =>
      intro i_1  v2_i_1 h1i_1 h2i_1  hv2_i_1
      refine j_iload_n X 0 rfl rfl dX0_setInArea_4 ?_
      refine j_aload_n X 1 rfl rfl dX0_setInArea_5 ?_
      refine j_get X (by decide) (wE_0 _ rfl) rfl awF0 3 (by decide) aw_155 rfl (v := .int (M 49 3)) rfl dX0_setInArea_6 ?_
      refine j_eqi (v := (nI n)) hm ?_
      refine j_icmp_ge X 41 (by decide) dX0_setInArea_9 (fun c_2 => ?_) (fun c_2 => ?_)
      · have c_2 := (nI_leI (by omega) (by omega)).mp (show nI (n) ≤ nI i_1 from c_2)
        refine j_iload_n X 3 rfl rfl dX0_setInArea_41 ?_
        exact j_iret X hr hlocks dX0_setInArea_42 ⟨by rw [hv2_i_1, show i_1 = n from by omega], rfl⟩
      · have c_2 : i_1 < n := by
          rcases Nat.lt_or_ge i_1 (n) with g | g
          · exact g
          · exact absurd (show nI (n) ≤ nI i_1 from nI_le g (by omega)) c_2
        refine j_iload_n X 3 rfl rfl dX0_setInArea_12 ?_
        refine j_aload_n X 1 rfl rfl dX0_setInArea_13 ?_
        refine j_get X (by decide) (wE_0 _ rfl) rfl awF0 2 (by decide) aw_60 rfl (v := .ref (ad 50)) rfl dX0_setInArea_14 ?_
        refine j_iload_n X 0 rfl rfl dX0_setInArea_17 ?_
        refine j_aald10 X (by decide) rfl (show vp_in (nI i_1) 9 from vp_in_nI (by omega) (by decide)) dX0_setInArea_18 ?_
        refine j_eqr (v := 51 + i_1) (by rw [nI_clamp (by omega)]; exact rf_one49 (by omega)) ?_
        refine j_getN X (by omega) (wE_1 _ (kd_one49 (by omega))) rfl awF1 2 (by decide) (List.mem_of_getElem? (i := 5) rfl) rfl (v := .int (M (51 + i_1) 2)) rfl dX0_setInArea_19 ?_
        refine j_iload_n X 2 rfl rfl dX0_setInArea_22 ?_
        refine j_icmp_ne X 32 (by decide) dX0_setInArea_23 (fun c_3 => ?_) (fun c_3 => ?_)
        · refine j_iconst X (v := 0) (by decide) dX0_setInArea_32 ?_
          refine j_ior X dX0_setInArea_33 ?_
          refine j_istore_n X [(2, .int (v2_i_1 ||| 0)), (3, .int (nI i_1)), (0, .ref (ad 49)), (1, .int a)] rfl (by decide) rfl dX0_setInArea_34 ?_
          refine j_iinc X (v := (nI (i_1 + 1))) 1 [(3, .int (nI (i_1 + 1))), (2, .int (v2_i_1 ||| 0)), (0, .ref (ad 49)), (1, .int a)] rfl (show nI i_1 + Int32.ofInt 1 = _ from nI_1 i_1) (by decide) rfl dX0_setInArea_35 ?_
          refine j_goto X 4 (by decide) dX0_setInArea_38 ?_
          refine j_lv (lv1 := [(3, .int (nI (i_1 + 1))), (0, .ref (ad 49)), (1, .int a), (2, .int (v2_i_1 ||| 0))]) [0, 2, 3, 1] rfl ?_
          exact ih1 (i_1 + 1) _ (by omega) (by omega)  (by rw [setB, hv2_i_1, if_neg (by simp [c_3])])
        · refine j_iconst X (v := 1) (by decide) dX0_setInArea_26 ?_
          refine j_iload_n X 0 rfl rfl dX0_setInArea_27 ?_
          refine j_ishl X dX0_setInArea_28 ?_
          refine j_goto X 33 (by decide) dX0_setInArea_29 ?_
          refine j_ior X dX0_setInArea_33 ?_
          refine j_istore_n X [(2, .int (v2_i_1 ||| (1 <<< ((nI i_1) &&& 31)))), (3, .int (nI i_1)), (0, .ref (ad 49)), (1, .int a)] rfl (by decide) rfl dX0_setInArea_34 ?_
          refine j_iinc X (v := (nI (i_1 + 1))) 1 [(3, .int (nI (i_1 + 1))), (2, .int (v2_i_1 ||| (1 <<< ((nI i_1) &&& 31)))), (0, .ref (ad 49)), (1, .int a)] rfl (show nI i_1 + Int32.ofInt 1 = _ from nI_1 i_1) (by decide) rfl dX0_setInArea_35 ?_
          refine j_goto X 4 (by decide) dX0_setInArea_38 ?_
          refine j_lv (lv1 := [(3, .int (nI (i_1 + 1))), (0, .ref (ad 49)), (1, .int a), (2, .int (v2_i_1 ||| (1 <<< ((nI i_1) &&& 31))))]) [0, 2, 3, 1] rfl ?_
          exact ih1 (i_1 + 1) _ (by omega) (by omega)  (by rw [setB, hv2_i_1, if_pos (by simp [c_3])])
  refine j_lv (lv1 := [(3, .int (nI 0)), (0, .ref (ad 49)), (1, .int a), (2, .int 0)]) [0, 2, 3, 1] rfl ?_
  exact loop1 (n + 1) 0 _ (by omega) (by omega) rfl
set_option maxRecDepth 100000 in
set_option maxHeartbeats 4000000 in
theorem g_setEnded_12 (l : Launch) (D : va_G) (y : wY) (ad : Nat → Nat) (M : Mem) (n : Nat) (hn : n ≤ 9) (hm : M 12 3 = nI n) : MI l D y ad yX0_setEnded (Cond.code yX0_setEnded cX0_setEnded 3 (some .int)) 0 M [.ref (ad 12)] (fun r M' => setB (fun i => !decide (M (14 + i) 6 = 0)) n = r ∧ M = M') := by
  refine MI_of (by decide) (Nat.le_of_ble_eq_true rfl) ?_
  intro p e s m args below meth c X hr hlocks
  refine j_lv (lv1 := [(0, .ref (ad 12))]) [0] rfl ?_
  refine j_iconst X (v := 0) (by decide) dX0_setEnded_0 ?_
  refine j_istore_n X [(1, .int 0), (0, .ref (ad 12))] rfl (by decide) rfl dX0_setEnded_1 ?_
  refine j_iconst X (v := 0) (by decide) dX0_setEnded_2 ?_
  refine j_istore_n X [(2, .int 0), (1, .int 0), (0, .ref (ad 12))] rfl (by decide) rfl dX0_setEnded_3 ?_
  have loop1 : ∀ (n_1 i_1 : Nat) (v1_i_1 : Int32), i_1 ≤ n → n - i_1 < n_1 → (v1_i_1 = setB (fun i => !decide (M (14 + i) 6 = 0)) i_1) → J p l e (rmN 0) s m args below meth c 0 0 (QI (fun r M' => setB (fun i => !decide (M (14 + i) 6 = 0)) n = r ∧ M = M') D y ad M s args below) D y ad (va_A (PL y ad M) s.heap.size) 3 M 4 [(2, .int (nI i_1)), (0, .ref (ad 12)), (1, .int v1_i_1)] [] := by
    intro n_1
    induction n_1 with
    | zero => intro i_1  v1_i_1 h1 h2; exact absurd h2 (by omega)
    | succ n_1 ih1 =>
      intro i_1  v1_i_1 h1i_1 h2i_1  hv1_i_1
      refine j_iload_n X 0 rfl rfl dX0_setEnded_4 ?_
      refine j_aload_n X 1 rfl rfl dX0_setEnded_5 ?_
      refine j_get X (by decide) (wE_0 _ rfl) rfl awF0 3 (by decide) aw_155 rfl (v := .int (M 12 3)) rfl dX0_setEnded_6 ?_
      refine j_eqi (v := (nI n)) hm ?_
      refine j_icmp_ge X 40 (by decide) dX0_setEnded_9 (fun c_2 => ?_) (fun c_2 => ?_)
      · have c_2 := (nI_leI (by omega) (by omega)).mp (show nI (n) ≤ nI i_1 from c_2)
        refine j_iload_n X 2 rfl rfl dX0_setEnded_40 ?_
        exact j_iret X hr hlocks dX0_setEnded_41 ⟨by rw [hv1_i_1, show i_1 = n from by omega], rfl⟩
      · have c_2 : i_1 < n := by
          rcases Nat.lt_or_ge i_1 (n) with g | g
          · exact g
          · exact absurd (show nI (n) ≤ nI i_1 from nI_le g (by omega)) c_2
        refine j_iload_n X 2 rfl rfl dX0_setEnded_12 ?_
        refine j_aload_n X 1 rfl rfl dX0_setEnded_13 ?_
        refine j_get X (by decide) (wE_0 _ rfl) rfl awF0 2 (by decide) aw_60 rfl (v := .ref (ad 13)) rfl dX0_setEnded_14 ?_
        refine j_iload_n X 0 rfl rfl dX0_setEnded_17 ?_
        refine j_aald10 X (by decide) rfl (show vp_in (nI i_1) 9 from vp_in_nI (by omega) (by decide)) dX0_setEnded_18 ?_
        refine j_eqr (v := 14 + i_1) (by rw [nI_clamp (by omega)]; exact rf_one12 (by omega)) ?_
        refine j_getN X (by omega) (wE_1 _ (kd_one12 (by omega))) rfl awF1 6 (by decide) (List.mem_of_getElem? (i := 13) rfl) rfl (v := .int (M (14 + i_1) 6)) rfl dX0_setEnded_19 ?_
        refine j_if_eq X 31 (by decide) dX0_setEnded_22 (fun c_3 => ?_) (fun c_3 => ?_)
        · have qc_3 := ti_eq (n := 0) (by decide) c_3
          refine j_iconst X (v := 0) (by decide) dX0_setEnded_31 ?_
          refine j_ior X dX0_setEnded_32 ?_
          refine j_istore_n X [(1, .int (v1_i_1 ||| 0)), (2, .int (nI i_1)), (0, .ref (ad 12))] rfl (by decide) rfl dX0_setEnded_33 ?_
          refine j_iinc X (v := (nI (i_1 + 1))) 1 [(2, .int (nI (i_1 + 1))), (1, .int (v1_i_1 ||| 0)), (0, .ref (ad 12))] rfl (show nI i_1 + Int32.ofInt 1 = _ from nI_1 i_1) (by decide) rfl dX0_setEnded_34 ?_
          refine j_goto X 4 (by decide) dX0_setEnded_37 ?_
          refine j_lv (lv1 := [(2, .int (nI (i_1 + 1))), (0, .ref (ad 12)), (1, .int (v1_i_1 ||| 0))]) [0, 2, 1] rfl ?_
          exact ih1 (i_1 + 1) _ (by omega) (by omega)  (by rw [setB, hv1_i_1, if_neg (by simp [c_3])])
        · have qc_3 := ti_ne (n := 0) (by decide) c_3
          refine j_iconst X (v := 1) (by decide) dX0_setEnded_25 ?_
          refine j_iload_n X 0 rfl rfl dX0_setEnded_26 ?_
          refine j_ishl X dX0_setEnded_27 ?_
          refine j_goto X 32 (by decide) dX0_setEnded_28 ?_
          refine j_ior X dX0_setEnded_32 ?_
          refine j_istore_n X [(1, .int (v1_i_1 ||| (1 <<< ((nI i_1) &&& 31)))), (2, .int (nI i_1)), (0, .ref (ad 12))] rfl (by decide) rfl dX0_setEnded_33 ?_
          refine j_iinc X (v := (nI (i_1 + 1))) 1 [(2, .int (nI (i_1 + 1))), (1, .int (v1_i_1 ||| (1 <<< ((nI i_1) &&& 31)))), (0, .ref (ad 12))] rfl (show nI i_1 + Int32.ofInt 1 = _ from nI_1 i_1) (by decide) rfl dX0_setEnded_34 ?_
          refine j_goto X 4 (by decide) dX0_setEnded_37 ?_
          refine j_lv (lv1 := [(2, .int (nI (i_1 + 1))), (0, .ref (ad 12)), (1, .int (v1_i_1 ||| (1 <<< ((nI i_1) &&& 31))))]) [0, 2, 1] rfl ?_
          exact ih1 (i_1 + 1) _ (by omega) (by omega)  (by rw [setB, hv1_i_1, if_pos (by simp [c_3])])
  refine j_lv (lv1 := [(2, .int (nI 0)), (0, .ref (ad 12)), (1, .int 0)]) [0, 2, 1] rfl ?_
  exact loop1 (n + 1) 0 _ (by omega) (by omega) rfl
set_option maxRecDepth 100000 in
set_option maxHeartbeats 4000000 in
theorem g_setEnded_49 (l : Launch) (D : va_G) (y : wY) (ad : Nat → Nat) (M : Mem) (n : Nat) (hn : n ≤ 9) (hm : M 49 3 = nI n) : MI l D y ad yX0_setEnded (Cond.code yX0_setEnded cX0_setEnded 3 (some .int)) 0 M [.ref (ad 49)] (fun r M' => setB (fun i => !decide (M (51 + i) 6 = 0)) n = r ∧ M = M') := by
  refine MI_of (by decide) (Nat.le_of_ble_eq_true rfl) ?_
  intro p e s m args below meth c X hr hlocks
  refine j_lv (lv1 := [(0, .ref (ad 49))]) [0] rfl ?_
  refine j_iconst X (v := 0) (by decide) dX0_setEnded_0 ?_
  refine j_istore_n X [(1, .int 0), (0, .ref (ad 49))] rfl (by decide) rfl dX0_setEnded_1 ?_
  refine j_iconst X (v := 0) (by decide) dX0_setEnded_2 ?_
  refine j_istore_n X [(2, .int 0), (1, .int 0), (0, .ref (ad 49))] rfl (by decide) rfl dX0_setEnded_3 ?_
  have loop1 : ∀ (n_1 i_1 : Nat) (v1_i_1 : Int32), i_1 ≤ n → n - i_1 < n_1 → (v1_i_1 = setB (fun i => !decide (M (51 + i) 6 = 0)) i_1) → J p l e (rmN 0) s m args below meth c 0 0 (QI (fun r M' => setB (fun i => !decide (M (51 + i) 6 = 0)) n = r ∧ M = M') D y ad M s args below) D y ad (va_A (PL y ad M) s.heap.size) 3 M 4 [(2, .int (nI i_1)), (0, .ref (ad 49)), (1, .int v1_i_1)] [] := by
    intro n_1
    induction n_1 with
    | zero => intro i_1  v1_i_1 h1 h2; exact absurd h2 (by omega)
    | succ n_1 ih1 =>
      intro i_1  v1_i_1 h1i_1 h2i_1  hv1_i_1
      refine j_iload_n X 0 rfl rfl dX0_setEnded_4 ?_
      refine j_aload_n X 1 rfl rfl dX0_setEnded_5 ?_
      refine j_get X (by decide) (wE_0 _ rfl) rfl awF0 3 (by decide) aw_155 rfl (v := .int (M 49 3)) rfl dX0_setEnded_6 ?_
      refine j_eqi (v := (nI n)) hm ?_
      refine j_icmp_ge X 40 (by decide) dX0_setEnded_9 (fun c_2 => ?_) (fun c_2 => ?_)
      · have c_2 := (nI_leI (by omega) (by omega)).mp (show nI (n) ≤ nI i_1 from c_2)
        refine j_iload_n X 2 rfl rfl dX0_setEnded_40 ?_
        exact j_iret X hr hlocks dX0_setEnded_41 ⟨by rw [hv1_i_1, show i_1 = n from by omega], rfl⟩
      · have c_2 : i_1 < n := by
          rcases Nat.lt_or_ge i_1 (n) with g | g
          · exact g
          · exact absurd (show nI (n) ≤ nI i_1 from nI_le g (by omega)) c_2
        refine j_iload_n X 2 rfl rfl dX0_setEnded_12 ?_
        refine j_aload_n X 1 rfl rfl dX0_setEnded_13 ?_
        refine j_get X (by decide) (wE_0 _ rfl) rfl awF0 2 (by decide) aw_60 rfl (v := .ref (ad 50)) rfl dX0_setEnded_14 ?_
        refine j_iload_n X 0 rfl rfl dX0_setEnded_17 ?_
        refine j_aald10 X (by decide) rfl (show vp_in (nI i_1) 9 from vp_in_nI (by omega) (by decide)) dX0_setEnded_18 ?_
        refine j_eqr (v := 51 + i_1) (by rw [nI_clamp (by omega)]; exact rf_one49 (by omega)) ?_
        refine j_getN X (by omega) (wE_1 _ (kd_one49 (by omega))) rfl awF1 6 (by decide) (List.mem_of_getElem? (i := 13) rfl) rfl (v := .int (M (51 + i_1) 6)) rfl dX0_setEnded_19 ?_
        refine j_if_eq X 31 (by decide) dX0_setEnded_22 (fun c_3 => ?_) (fun c_3 => ?_)
        · have qc_3 := ti_eq (n := 0) (by decide) c_3
          refine j_iconst X (v := 0) (by decide) dX0_setEnded_31 ?_
          refine j_ior X dX0_setEnded_32 ?_
          refine j_istore_n X [(1, .int (v1_i_1 ||| 0)), (2, .int (nI i_1)), (0, .ref (ad 49))] rfl (by decide) rfl dX0_setEnded_33 ?_
          refine j_iinc X (v := (nI (i_1 + 1))) 1 [(2, .int (nI (i_1 + 1))), (1, .int (v1_i_1 ||| 0)), (0, .ref (ad 49))] rfl (show nI i_1 + Int32.ofInt 1 = _ from nI_1 i_1) (by decide) rfl dX0_setEnded_34 ?_
          refine j_goto X 4 (by decide) dX0_setEnded_37 ?_
          refine j_lv (lv1 := [(2, .int (nI (i_1 + 1))), (0, .ref (ad 49)), (1, .int (v1_i_1 ||| 0))]) [0, 2, 1] rfl ?_
          exact ih1 (i_1 + 1) _ (by omega) (by omega)  (by rw [setB, hv1_i_1, if_neg (by simp [c_3])])
        · have qc_3 := ti_ne (n := 0) (by decide) c_3
          refine j_iconst X (v := 1) (by decide) dX0_setEnded_25 ?_
          refine j_iload_n X 0 rfl rfl dX0_setEnded_26 ?_
          refine j_ishl X dX0_setEnded_27 ?_
          refine j_goto X 32 (by decide) dX0_setEnded_28 ?_
          refine j_ior X dX0_setEnded_32 ?_
          refine j_istore_n X [(1, .int (v1_i_1 ||| (1 <<< ((nI i_1) &&& 31)))), (2, .int (nI i_1)), (0, .ref (ad 49))] rfl (by decide) rfl dX0_setEnded_33 ?_
          refine j_iinc X (v := (nI (i_1 + 1))) 1 [(2, .int (nI (i_1 + 1))), (1, .int (v1_i_1 ||| (1 <<< ((nI i_1) &&& 31)))), (0, .ref (ad 49))] rfl (show nI i_1 + Int32.ofInt 1 = _ from nI_1 i_1) (by decide) rfl dX0_setEnded_34 ?_
          refine j_goto X 4 (by decide) dX0_setEnded_37 ?_
          refine j_lv (lv1 := [(2, .int (nI (i_1 + 1))), (0, .ref (ad 49)), (1, .int (v1_i_1 ||| (1 <<< ((nI i_1) &&& 31))))]) [0, 2, 1] rfl ?_
          exact ih1 (i_1 + 1) _ (by omega) (by omega)  (by rw [setB, hv1_i_1, if_pos (by simp [c_3])])
  refine j_lv (lv1 := [(2, .int (nI 0)), (0, .ref (ad 49)), (1, .int 0)]) [0, 2, 1] rfl ?_
  exact loop1 (n + 1) 0 _ (by omega) (by omega) rfl
