theorem dX1_copyFrom_0 : decode cX1_copyFrom 0 = .ok (.aload_n 0, 1) := by decide +kernel
theorem dX1_copyFrom_1 : decode cX1_copyFrom 1 = .ok (.aload_n 1, 1) := by decide +kernel
theorem dX1_copyFrom_2 : decode cX1_copyFrom 2 = .ok (.getfield 9, 3) := by decide +kernel
theorem dX1_copyFrom_5 : decode cX1_copyFrom 5 = .ok (.putfield 9, 3) := by decide +kernel
theorem dX1_copyFrom_8 : decode cX1_copyFrom 8 = .ok (.aload_n 0, 1) := by decide +kernel
theorem dX1_copyFrom_9 : decode cX1_copyFrom 9 = .ok (.aload_n 1, 1) := by decide +kernel
theorem dX1_copyFrom_10 : decode cX1_copyFrom 10 = .ok (.getfield 15, 3) := by decide +kernel
theorem dX1_copyFrom_13 : decode cX1_copyFrom 13 = .ok (.putfield 15, 3) := by decide +kernel
theorem dX1_copyFrom_16 : decode cX1_copyFrom 16 = .ok (.aload_n 0, 1) := by decide +kernel
theorem dX1_copyFrom_17 : decode cX1_copyFrom 17 = .ok (.aload_n 1, 1) := by decide +kernel
theorem dX1_copyFrom_18 : decode cX1_copyFrom 18 = .ok (.getfield 18, 3) := by decide +kernel
theorem dX1_copyFrom_21 : decode cX1_copyFrom 21 = .ok (.putfield 18, 3) := by decide +kernel
theorem dX1_copyFrom_24 : decode cX1_copyFrom 24 = .ok (.aload_n 0, 1) := by decide +kernel
theorem dX1_copyFrom_25 : decode cX1_copyFrom 25 = .ok (.aload_n 1, 1) := by decide +kernel
theorem dX1_copyFrom_26 : decode cX1_copyFrom 26 = .ok (.getfield 21, 3) := by decide +kernel
theorem dX1_copyFrom_29 : decode cX1_copyFrom 29 = .ok (.putfield 21, 3) := by decide +kernel
theorem dX1_copyFrom_32 : decode cX1_copyFrom 32 = .ok (.aload_n 0, 1) := by decide +kernel
theorem dX1_copyFrom_33 : decode cX1_copyFrom 33 = .ok (.aload_n 1, 1) := by decide +kernel
theorem dX1_copyFrom_34 : decode cX1_copyFrom 34 = .ok (.getfield 24, 3) := by decide +kernel
theorem dX1_copyFrom_37 : decode cX1_copyFrom 37 = .ok (.putfield 24, 3) := by decide +kernel
theorem dX1_copyFrom_40 : decode cX1_copyFrom 40 = .ok (.aload_n 0, 1) := by decide +kernel
theorem dX1_copyFrom_41 : decode cX1_copyFrom 41 = .ok (.aload_n 1, 1) := by decide +kernel
theorem dX1_copyFrom_42 : decode cX1_copyFrom 42 = .ok (.getfield 27, 3) := by decide +kernel
theorem dX1_copyFrom_45 : decode cX1_copyFrom 45 = .ok (.putfield 27, 3) := by decide +kernel
theorem dX1_copyFrom_48 : decode cX1_copyFrom 48 = .ok (.aload_n 0, 1) := by decide +kernel
theorem dX1_copyFrom_49 : decode cX1_copyFrom 49 = .ok (.aload_n 1, 1) := by decide +kernel
theorem dX1_copyFrom_50 : decode cX1_copyFrom 50 = .ok (.getfield 30, 3) := by decide +kernel
theorem dX1_copyFrom_53 : decode cX1_copyFrom 53 = .ok (.putfield 30, 3) := by decide +kernel
theorem dX1_copyFrom_56 : decode cX1_copyFrom 56 = .ok (.return_, 1) := by decide +kernel
theorem dX0_copyFrom_0 : decode cX0_copyFrom 0 = .ok (.iconst 0, 1) := by decide +kernel
theorem dX0_copyFrom_1 : decode cX0_copyFrom 1 = .ok (.istore_n 2, 1) := by decide +kernel
theorem dX0_copyFrom_2 : decode cX0_copyFrom 2 = .ok (.iload_n 2, 1) := by decide +kernel
theorem dX0_copyFrom_3 : decode cX0_copyFrom 3 = .ok (.aload_n 1, 1) := by decide +kernel
theorem dX0_copyFrom_4 : decode cX0_copyFrom 4 = .ok (.getfield 29, 3) := by decide +kernel
theorem dX0_copyFrom_7 : decode cX0_copyFrom 7 = .ok (.if_icmp .ge 24, 3) := by decide +kernel
theorem dX0_copyFrom_31 : decode cX0_copyFrom 31 = .ok (.aload_n 0, 1) := by decide +kernel
theorem dX0_copyFrom_32 : decode cX0_copyFrom 32 = .ok (.aload_n 1, 1) := by decide +kernel
theorem dX0_copyFrom_33 : decode cX0_copyFrom 33 = .ok (.getfield 29, 3) := by decide +kernel
theorem dX0_copyFrom_36 : decode cX0_copyFrom 36 = .ok (.putfield 29, 3) := by decide +kernel
theorem dX0_copyFrom_39 : decode cX0_copyFrom 39 = .ok (.aload_n 0, 1) := by decide +kernel
theorem dX0_copyFrom_40 : decode cX0_copyFrom 40 = .ok (.aload_n 1, 1) := by decide +kernel
theorem dX0_copyFrom_41 : decode cX0_copyFrom 41 = .ok (.getfield 36, 3) := by decide +kernel
theorem dX0_copyFrom_44 : decode cX0_copyFrom 44 = .ok (.putfield 36, 3) := by decide +kernel
theorem dX0_copyFrom_47 : decode cX0_copyFrom 47 = .ok (.aload_n 0, 1) := by decide +kernel
theorem dX0_copyFrom_48 : decode cX0_copyFrom 48 = .ok (.aload_n 1, 1) := by decide +kernel
theorem dX0_copyFrom_49 : decode cX0_copyFrom 49 = .ok (.getfield 17, 3) := by decide +kernel
theorem dX0_copyFrom_52 : decode cX0_copyFrom 52 = .ok (.putfield 17, 3) := by decide +kernel
theorem dX0_copyFrom_55 : decode cX0_copyFrom 55 = .ok (.aload_n 0, 1) := by decide +kernel
theorem dX0_copyFrom_56 : decode cX0_copyFrom 56 = .ok (.aload_n 1, 1) := by decide +kernel
theorem dX0_copyFrom_57 : decode cX0_copyFrom 57 = .ok (.getfield 39, 3) := by decide +kernel
theorem dX0_copyFrom_60 : decode cX0_copyFrom 60 = .ok (.putfield 39, 3) := by decide +kernel
theorem dX0_copyFrom_63 : decode cX0_copyFrom 63 = .ok (.aload_n 0, 1) := by decide +kernel
theorem dX0_copyFrom_64 : decode cX0_copyFrom 64 = .ok (.aload_n 1, 1) := by decide +kernel
theorem dX0_copyFrom_65 : decode cX0_copyFrom 65 = .ok (.getfield 42, 3) := by decide +kernel
theorem dX0_copyFrom_68 : decode cX0_copyFrom 68 = .ok (.putfield 42, 3) := by decide +kernel
theorem dX0_copyFrom_71 : decode cX0_copyFrom 71 = .ok (.aload_n 0, 1) := by decide +kernel
theorem dX0_copyFrom_72 : decode cX0_copyFrom 72 = .ok (.aload_n 1, 1) := by decide +kernel
theorem dX0_copyFrom_73 : decode cX0_copyFrom 73 = .ok (.getfield 45, 3) := by decide +kernel
theorem dX0_copyFrom_76 : decode cX0_copyFrom 76 = .ok (.putfield 45, 3) := by decide +kernel
theorem dX0_copyFrom_79 : decode cX0_copyFrom 79 = .ok (.return_, 1) := by decide +kernel
theorem dX0_copyFrom_10 : decode cX0_copyFrom 10 = .ok (.aload_n 0, 1) := by decide +kernel
theorem dX0_copyFrom_11 : decode cX0_copyFrom 11 = .ok (.getfield 11, 3) := by decide +kernel
theorem dX0_copyFrom_14 : decode cX0_copyFrom 14 = .ok (.iload_n 2, 1) := by decide +kernel
theorem dX0_copyFrom_15 : decode cX0_copyFrom 15 = .ok (.aaload, 1) := by decide +kernel
theorem dX0_copyFrom_16 : decode cX0_copyFrom 16 = .ok (.aload_n 1, 1) := by decide +kernel
theorem dX0_copyFrom_17 : decode cX0_copyFrom 17 = .ok (.getfield 11, 3) := by decide +kernel
theorem dX0_copyFrom_20 : decode cX0_copyFrom 20 = .ok (.iload_n 2, 1) := by decide +kernel
theorem dX0_copyFrom_21 : decode cX0_copyFrom 21 = .ok (.aaload, 1) := by decide +kernel
theorem dX0_copyFrom_22 : decode cX0_copyFrom 22 = .ok (.invokevirtual 32, 3) := by decide +kernel
theorem dX0_copyFrom_25 : decode cX0_copyFrom 25 = .ok (.iinc 2 1, 3) := by decide +kernel
theorem dX0_copyFrom_28 : decode cX0_copyFrom 28 = .ok (.goto (-26), 3) := by decide +kernel
set_option maxRecDepth 100000 in
set_option maxHeartbeats 4000000 in
theorem g_copyOne (l : Launch) (D : va_G) (y : wY) (ad : Nat → Nat) (M : Mem) (c0 : Nat) (hc0 : c0 < 93) (hk0 : kd c0 = 1) (c1 : Nat) (hc1 : c1 < 93) (hk1 : kd c1 = 1) (hne : c0 ≠ c1) (hB : BoolOK (M c1 6)) : MV l D y ad yX1_copyFrom (Cond.code yX1_copyFrom cX1_copyFrom 2 none) 0 M [.ref (ad c0), .ref (ad c1)] (fun M' => sm (fun b _ => b == c0) M M' ∧ ∀ f, f < 7 → M' c0 f = M c1 f) := by
  refine MV_of (by decide) (Nat.le_of_ble_eq_true rfl) ?_
  intro p e s m args below meth c X hr hlocks
  refine j_lv (lv1 := [(0, .ref (ad c0)), (1, .ref (ad c1))]) [0, 1] rfl ?_
  refine j_aload_n X 0 rfl rfl dX1_copyFrom_0 ?_
  refine j_aload_n X 1 rfl rfl dX1_copyFrom_1 ?_
  refine j_get X hc1 (wE_1 _ hk1) rfl awF1 0 (by decide) aw_175 rfl (v := .int (M c1 0)) rfl dX1_copyFrom_2 ?_
  refine j_put X (up M c0 0 (M c1 0)) up_o hc0 (wE_1 _ hk0) rfl awF1 0 (by decide) (wP_1_0 _ _ hk0) tyX1 tyX1_ok nmX1 rfl (ty := .int) (by decide +kernel) rfl rfl (Nat.le_of_ble_eq_true rfl) aw_175 rfl dX1_copyFrom_5 ?_
  refine j_aload_n X 0 rfl rfl dX1_copyFrom_8 ?_
  refine j_aload_n X 1 rfl rfl dX1_copyFrom_9 ?_
  refine j_get X hc1 (wE_1 _ hk1) rfl awF1 1 (by decide) aw_176 rfl (v := .int ((up M c0 0 (M c1 0)) c1 1)) rfl dX1_copyFrom_10 ?_
  refine j_eqi (v := M c1 1) ((up_cell (by omega)).trans rfl) ?_
  refine j_put X (up (up M c0 0 (M c1 0)) c0 1 (M c1 1)) up_o hc0 (wE_1 _ hk0) rfl awF1 1 (by decide) (wP_1_1 _ _ hk0) tyX1 tyX1_ok nmX1 rfl (ty := .int) (by decide +kernel) rfl rfl (Nat.le_of_ble_eq_true rfl) aw_176 rfl dX1_copyFrom_13 ?_
  refine j_aload_n X 0 rfl rfl dX1_copyFrom_16 ?_
  refine j_aload_n X 1 rfl rfl dX1_copyFrom_17 ?_
  refine j_get X hc1 (wE_1 _ hk1) rfl awF1 2 (by decide) aw_270 rfl (v := .int ((up (up M c0 0 (M c1 0)) c0 1 (M c1 1)) c1 2)) rfl dX1_copyFrom_18 ?_
  refine j_eqi (v := M c1 2) ((up_cell (by omega)).trans ((up_cell (by omega)).trans rfl)) ?_
  refine j_put X (up (up (up M c0 0 (M c1 0)) c0 1 (M c1 1)) c0 2 (M c1 2)) up_o hc0 (wE_1 _ hk0) rfl awF1 2 (by decide) (wP_1_2 _ _ hk0) tyX1 tyX1_ok nmX1 rfl (ty := .int) (by decide +kernel) rfl rfl (Nat.le_of_ble_eq_true rfl) aw_270 rfl dX1_copyFrom_21 ?_
  refine j_aload_n X 0 rfl rfl dX1_copyFrom_24 ?_
  refine j_aload_n X 1 rfl rfl dX1_copyFrom_25 ?_
  refine j_get X hc1 (wE_1 _ hk1) rfl awF1 3 (by decide) aw_271 rfl (v := .int ((up (up (up M c0 0 (M c1 0)) c0 1 (M c1 1)) c0 2 (M c1 2)) c1 3)) rfl dX1_copyFrom_26 ?_
  refine j_eqi (v := M c1 3) ((up_cell (by omega)).trans ((up_cell (by omega)).trans ((up_cell (by omega)).trans rfl))) ?_
  refine j_put X (up (up (up (up M c0 0 (M c1 0)) c0 1 (M c1 1)) c0 2 (M c1 2)) c0 3 (M c1 3)) up_o hc0 (wE_1 _ hk0) rfl awF1 3 (by decide) (wP_1_3 _ _ hk0) tyX1 tyX1_ok nmX1 rfl (ty := .int) (by decide +kernel) rfl rfl (Nat.le_of_ble_eq_true rfl) aw_271 rfl dX1_copyFrom_29 ?_
  refine j_aload_n X 0 rfl rfl dX1_copyFrom_32 ?_
  refine j_aload_n X 1 rfl rfl dX1_copyFrom_33 ?_
  refine j_get X hc1 (wE_1 _ hk1) rfl awF1 4 (by decide) aw_543 rfl (v := .int ((up (up (up (up M c0 0 (M c1 0)) c0 1 (M c1 1)) c0 2 (M c1 2)) c0 3 (M c1 3)) c1 4)) rfl dX1_copyFrom_34 ?_
  refine j_eqi (v := M c1 4) ((up_cell (by omega)).trans ((up_cell (by omega)).trans ((up_cell (by omega)).trans ((up_cell (by omega)).trans rfl)))) ?_
  refine j_put X (up (up (up (up (up M c0 0 (M c1 0)) c0 1 (M c1 1)) c0 2 (M c1 2)) c0 3 (M c1 3)) c0 4 (M c1 4)) up_o hc0 (wE_1 _ hk0) rfl awF1 4 (by decide) (wP_1_4 _ _ hk0) tyX1 tyX1_ok nmX1 rfl (ty := .int) (by decide +kernel) rfl rfl (Nat.le_of_ble_eq_true rfl) aw_543 rfl dX1_copyFrom_37 ?_
  refine j_aload_n X 0 rfl rfl dX1_copyFrom_40 ?_
  refine j_aload_n X 1 rfl rfl dX1_copyFrom_41 ?_
  refine j_get X hc1 (wE_1 _ hk1) rfl awF1 5 (by decide) aw_218 rfl (v := .int ((up (up (up (up (up M c0 0 (M c1 0)) c0 1 (M c1 1)) c0 2 (M c1 2)) c0 3 (M c1 3)) c0 4 (M c1 4)) c1 5)) rfl dX1_copyFrom_42 ?_
  refine j_eqi (v := M c1 5) ((up_cell (by omega)).trans ((up_cell (by omega)).trans ((up_cell (by omega)).trans ((up_cell (by omega)).trans ((up_cell (by omega)).trans rfl))))) ?_
  refine j_put X (up (up (up (up (up (up M c0 0 (M c1 0)) c0 1 (M c1 1)) c0 2 (M c1 2)) c0 3 (M c1 3)) c0 4 (M c1 4)) c0 5 (M c1 5)) up_o hc0 (wE_1 _ hk0) rfl awF1 5 (by decide) (wP_1_5 _ _ hk0) tyX1 tyX1_ok nmX1 rfl (ty := .int) (by decide +kernel) rfl rfl (Nat.le_of_ble_eq_true rfl) aw_218 rfl dX1_copyFrom_45 ?_
  refine j_aload_n X 0 rfl rfl dX1_copyFrom_48 ?_
  refine j_aload_n X 1 rfl rfl dX1_copyFrom_49 ?_
  refine j_get X hc1 (wE_1 _ hk1) rfl awF1 6 (by decide) aw_272 rfl (v := .int ((up (up (up (up (up (up M c0 0 (M c1 0)) c0 1 (M c1 1)) c0 2 (M c1 2)) c0 3 (M c1 3)) c0 4 (M c1 4)) c0 5 (M c1 5)) c1 6)) rfl dX1_copyFrom_50 ?_
  refine j_eqi (v := M c1 6) ((up_cell (by omega)).trans ((up_cell (by omega)).trans ((up_cell (by omega)).trans ((up_cell (by omega)).trans ((up_cell (by omega)).trans ((up_cell (by omega)).trans rfl)))))) ?_
  refine j_put X (up (up (up (up (up (up (up M c0 0 (M c1 0)) c0 1 (M c1 1)) c0 2 (M c1 2)) c0 3 (M c1 3)) c0 4 (M c1 4)) c0 5 (M c1 5)) c0 6 (M c1 6)) up_o hc0 (wE_1 _ hk0) rfl awF1 6 (by decide) (wP_1_6 _ _ hk0) tyX1 tyX1_ok nmX1 rfl (ty := .boolean) (by decide +kernel) (nar_bool hB) (fit_bool hB) (Nat.le_of_ble_eq_true rfl) aw_272 rfl dX1_copyFrom_53 ?_
  exact j_vret X hr hlocks dX1_copyFrom_56 ⟨(sm_up (sm_up (sm_up (sm_up (sm_up (sm_up (sm_up sm_rf (by first | rfl | (simp; done) | (simp; omega) | (simp only [Bool.and_eq_true, Bool.or_eq_true, decide_eq_true_eq, beq_iff_eq]; omega))) (by first | rfl | (simp; done) | (simp; omega) | (simp only [Bool.and_eq_true, Bool.or_eq_true, decide_eq_true_eq, beq_iff_eq]; omega))) (by first | rfl | (simp; done) | (simp; omega) | (simp only [Bool.and_eq_true, Bool.or_eq_true, decide_eq_true_eq, beq_iff_eq]; omega))) (by first | rfl | (simp; done) | (simp; omega) | (simp only [Bool.and_eq_true, Bool.or_eq_true, decide_eq_true_eq, beq_iff_eq]; omega))) (by first | rfl | (simp; done) | (simp; omega) | (simp only [Bool.and_eq_true, Bool.or_eq_true, decide_eq_true_eq, beq_iff_eq]; omega))) (by first | rfl | (simp; done) | (simp; omega) | (simp only [Bool.and_eq_true, Bool.or_eq_true, decide_eq_true_eq, beq_iff_eq]; omega))) (by first | rfl | (simp; done) | (simp; omega) | (simp only [Bool.and_eq_true, Bool.or_eq_true, decide_eq_true_eq, beq_iff_eq]; omega))), fun f hf => by rcases (by omega : f = 0 ∨ f = 1 ∨ f = 2 ∨ f = 3 ∨ f = 4 ∨ f = 5 ∨ f = 6) with rfl | rfl | rfl | rfl | rfl | rfl | rfl <;> simp [up, hne]⟩
theorem cp_step {M M1 M2 : Mem} {dB sB i : Nat} (h : ∀ q, q < i → ∀ f, f < 7 → M1 (dB + q) f = M (sB + q) f) (hs : sm (fun b _ => b == dB + i) M1 M2) (hv : ∀ f, f < 7 → M2 (dB + i) f = M1 (sB + i) f) (h1 : ∀ f, M1 (sB + i) f = M (sB + i) f) : ∀ q, q < i + 1 → ∀ f, f < 7 → M2 (dB + q) f = M (sB + q) f := by
  intro q hq f hf
  by_cases e : q = i
  · subst e; rw [hv f hf, h1 f]
  · rw [hs (dB + q) f (by simp; omega)]; exact h q (by omega) f hf
set_option maxRecDepth 100000 in
set_option maxHeartbeats 4000000 in
theorem g_copyGround_49_12 (l : Launch) (D : va_G) (y : wY) (ad : Nat → Nat) (M : Mem) (n : Nat) (hn : n ≤ 9) (hm : M 12 3 = nI n) (hB : ∀ q, q < 9 → BoolOK (M (14 + q) 6)) : MV l D y ad yX0_copyFrom (Cond.code yX0_copyFrom cX0_copyFrom 3 none) 1 M [.ref (ad 49), .ref (ad 12)] (fun M' => sm (fun b k => (b == 49 && decide (3 ≤ k) && decide (k ≤ 8)) || (decide (51 ≤ b) && decide (b ≤ 59))) M M' ∧ (∀ q, q < n → ∀ f, f < 7 → M' (51 + q) f = M (14 + q) f) ∧ (∀ f, 3 ≤ f → f ≤ 8 → M' 49 f = M 12 f)) := by
  refine MV_of (by decide) (Nat.le_of_ble_eq_true rfl) ?_
  intro p e s m args below meth c X hr hlocks
  refine j_lv (lv1 := [(0, .ref (ad 49)), (1, .ref (ad 12))]) [0, 1] rfl ?_
  refine j_iconst X (v := 0) (by decide) dX0_copyFrom_0 ?_
  refine j_istore_n X [(2, .int 0), (0, .ref (ad 49)), (1, .ref (ad 12))] rfl (by decide) rfl dX0_copyFrom_1 ?_
  have loop1 : ∀ (n_1 i_1 : Nat) (M1 : Mem), i_1 ≤ n → n - i_1 < n_1 → sm (fun b k => (b == 49 && decide (3 ≤ k) && decide (k ≤ 8)) || (decide (51 ≤ b) && decide (b ≤ 59))) M M1 → (∀ q, q < i_1 → ∀ f, f < 7 → M1 (51 + q) f = M (14 + q) f) → J p l e (rmN 1) s m args below meth c 0 0 (QV (fun M' => sm (fun b k => (b == 49 && decide (3 ≤ k) && decide (k ≤ 8)) || (decide (51 ≤ b) && decide (b ≤ 59))) M M' ∧ (∀ q, q < n → ∀ f, f < 7 → M' (51 + q) f = M (14 + q) f) ∧ (∀ f, 3 ≤ f → f ≤ 8 → M' 49 f = M 12 f)) D y ad M s args below) D y ad (va_A (PL y ad M) s.heap.size) 3 M1 2 [(2, .int (nI i_1)), (0, .ref (ad 49)), (1, .ref (ad 12))] [] := by
    intro n_1
    induction n_1 with
    | zero => intro i_1 M1 h1 h2; exact absurd h2 (by omega)
    | succ n_1 ih1 =>
      intro i_1 M1 h1i_1 h2i_1 hs1 hvi_1
      refine j_iload_n X 0 rfl rfl dX0_copyFrom_2 ?_
      refine j_aload_n X 2 rfl rfl dX0_copyFrom_3 ?_
      refine j_get X (by decide) (wE_0 _ rfl) rfl awF0 3 (by decide) aw_155 rfl (v := .int (M1 12 3)) rfl dX0_copyFrom_4 ?_
      refine j_eqi (v := (nI n)) ((hs1 12 3 rfl).trans hm) ?_
      refine j_icmp_ge X 31 (by decide) dX0_copyFrom_7 (fun c_2 => ?_) (fun c_2 => ?_)
      · have c_2 := (nI_leI (by omega) (by omega)).mp (show nI (n) ≤ nI i_1 from c_2)
        refine j_aload_n X 1 rfl rfl dX0_copyFrom_31 ?_
        refine j_aload_n X 2 rfl rfl dX0_copyFrom_32 ?_
        refine j_get X (by decide) (wE_0 _ rfl) rfl awF0 3 (by decide) aw_155 rfl (v := .int (M1 12 3)) rfl dX0_copyFrom_33 ?_
        refine j_eqi (v := (nI n)) ((hs1 12 3 rfl).trans hm) ?_
        refine j_put X (up M1 49 3 (nI n)) up_o (by decide) (wE_0 _ rfl) rfl awF0 3 (by decide) (wP_0_3 _ _ rfl) tyX0 tyX0_ok nmX0 rfl (ty := .int) (by decide +kernel) rfl rfl (Nat.le_of_ble_eq_true rfl) aw_155 rfl dX0_copyFrom_36 ?_
        refine j_aload_n X 1 rfl rfl dX0_copyFrom_39 ?_
        refine j_aload_n X 2 rfl rfl dX0_copyFrom_40 ?_
        refine j_get X (by decide) (wE_0 _ rfl) rfl awF0 4 (by decide) aw_124 rfl (v := .int ((up M1 49 3 (nI n)) 12 4)) rfl dX0_copyFrom_41 ?_
        refine j_eqi (v := M1 12 4) ((up_cell (by omega)).trans rfl) ?_
        refine j_put X (up (up M1 49 3 (nI n)) 49 4 (M1 12 4)) up_o (by decide) (wE_0 _ rfl) rfl awF0 4 (by decide) (wP_0_4 _ _ rfl) tyX0 tyX0_ok nmX0 rfl (ty := .int) (by decide +kernel) rfl rfl (Nat.le_of_ble_eq_true rfl) aw_124 rfl dX0_copyFrom_44 ?_
        refine j_aload_n X 1 rfl rfl dX0_copyFrom_47 ?_
        refine j_aload_n X 2 rfl rfl dX0_copyFrom_48 ?_
        refine j_get X (by decide) (wE_0 _ rfl) rfl awF0 5 (by decide) aw_61 rfl (v := .int ((up (up M1 49 3 (nI n)) 49 4 (M1 12 4)) 12 5)) rfl dX0_copyFrom_49 ?_
        refine j_eqi (v := M1 12 5) ((up_cell (by omega)).trans ((up_cell (by omega)).trans rfl)) ?_
        refine j_put X (up (up (up M1 49 3 (nI n)) 49 4 (M1 12 4)) 49 5 (M1 12 5)) up_o (by decide) (wE_0 _ rfl) rfl awF0 5 (by decide) (wP_0_5 _ _ rfl) tyX0 tyX0_ok nmX0 rfl (ty := .int) (by decide +kernel) rfl rfl (Nat.le_of_ble_eq_true rfl) aw_61 rfl dX0_copyFrom_52 ?_
        refine j_aload_n X 1 rfl rfl dX0_copyFrom_55 ?_
        refine j_aload_n X 2 rfl rfl dX0_copyFrom_56 ?_
        refine j_get X (by decide) (wE_0 _ rfl) rfl awF0 6 (by decide) aw_197 rfl (v := .int ((up (up (up M1 49 3 (nI n)) 49 4 (M1 12 4)) 49 5 (M1 12 5)) 12 6)) rfl dX0_copyFrom_57 ?_
        refine j_eqi (v := M1 12 6) ((up_cell (by omega)).trans ((up_cell (by omega)).trans ((up_cell (by omega)).trans rfl))) ?_
        refine j_put X (up (up (up (up M1 49 3 (nI n)) 49 4 (M1 12 4)) 49 5 (M1 12 5)) 49 6 (M1 12 6)) up_o (by decide) (wE_0 _ rfl) rfl awF0 6 (by decide) (wP_0_6 _ _ rfl) tyX0 tyX0_ok nmX0 rfl (ty := .int) (by decide +kernel) rfl rfl (Nat.le_of_ble_eq_true rfl) aw_197 rfl dX0_copyFrom_60 ?_
        refine j_aload_n X 1 rfl rfl dX0_copyFrom_63 ?_
        refine j_aload_n X 2 rfl rfl dX0_copyFrom_64 ?_
        refine j_get X (by decide) (wE_0 _ rfl) rfl awF0 7 (by decide) aw_125 rfl (v := .int ((up (up (up (up M1 49 3 (nI n)) 49 4 (M1 12 4)) 49 5 (M1 12 5)) 49 6 (M1 12 6)) 12 7)) rfl dX0_copyFrom_65 ?_
        refine j_eqi (v := M1 12 7) ((up_cell (by omega)).trans ((up_cell (by omega)).trans ((up_cell (by omega)).trans ((up_cell (by omega)).trans rfl)))) ?_
        refine j_put X (up (up (up (up (up M1 49 3 (nI n)) 49 4 (M1 12 4)) 49 5 (M1 12 5)) 49 6 (M1 12 6)) 49 7 (M1 12 7)) up_o (by decide) (wE_0 _ rfl) rfl awF0 7 (by decide) (wP_0_7 _ _ rfl) tyX0 tyX0_ok nmX0 rfl (ty := .int) (by decide +kernel) rfl rfl (Nat.le_of_ble_eq_true rfl) aw_125 rfl dX0_copyFrom_68 ?_
        refine j_aload_n X 1 rfl rfl dX0_copyFrom_71 ?_
        refine j_aload_n X 2 rfl rfl dX0_copyFrom_72 ?_
        refine j_get X (by decide) (wE_0 _ rfl) rfl awF0 8 (by decide) aw_126 rfl (v := .int ((up (up (up (up (up M1 49 3 (nI n)) 49 4 (M1 12 4)) 49 5 (M1 12 5)) 49 6 (M1 12 6)) 49 7 (M1 12 7)) 12 8)) rfl dX0_copyFrom_73 ?_
        refine j_eqi (v := M1 12 8) ((up_cell (by omega)).trans ((up_cell (by omega)).trans ((up_cell (by omega)).trans ((up_cell (by omega)).trans ((up_cell (by omega)).trans rfl))))) ?_
        refine j_put X (up (up (up (up (up (up M1 49 3 (nI n)) 49 4 (M1 12 4)) 49 5 (M1 12 5)) 49 6 (M1 12 6)) 49 7 (M1 12 7)) 49 8 (M1 12 8)) up_o (by decide) (wE_0 _ rfl) rfl awF0 8 (by decide) (wP_0_8 _ _ rfl) tyX0 tyX0_ok nmX0 rfl (ty := .int) (by decide +kernel) rfl rfl (Nat.le_of_ble_eq_true rfl) aw_126 rfl dX0_copyFrom_76 ?_
        exact j_vret X hr hlocks dX0_copyFrom_79 ⟨(sm_up (sm_up (sm_up (sm_up (sm_up (sm_up (sm_tr sm_rf (sm_w hs1 (by intro b k hb; first | rfl | exact hb | (simp only [Bool.or_eq_false_iff, Bool.and_eq_false_iff, beq_eq_false_iff_ne, ne_eq, decide_eq_false_iff_not] at hb ⊢; omega)))) rfl) rfl) rfl) rfl) rfl) rfl), fun q hq f hf => by rw [up_cell (by omega), up_cell (by omega), up_cell (by omega), up_cell (by omega), up_cell (by omega), up_cell (by omega)]; exact hvi_1 q (by omega) f hf, fun f h3 h8 => by rcases (by omega : f = 3 ∨ f = 4 ∨ f = 5 ∨ f = 6 ∨ f = 7 ∨ f = 8) with rfl | rfl | rfl | rfl | rfl | rfl <;> simp [up] <;> first | exact hs1 12 _ rfl | exact hm.symm | rfl⟩
      · have c_2 : i_1 < n := by
          rcases Nat.lt_or_ge i_1 (n) with g | g
          · exact g
          · exact absurd (show nI (n) ≤ nI i_1 from nI_le g (by omega)) c_2
        refine j_aload_n X 1 rfl rfl dX0_copyFrom_10 ?_
        refine j_get X (by decide) (wE_0 _ rfl) rfl awF0 2 (by decide) aw_60 rfl (v := .ref (ad 50)) rfl dX0_copyFrom_11 ?_
        refine j_iload_n X 0 rfl rfl dX0_copyFrom_14 ?_
        refine j_aald10 X (by decide) rfl (show vp_in (nI i_1) 9 from vp_in_nI (by omega) (by decide)) dX0_copyFrom_15 ?_
        refine j_eqr (v := 51 + i_1) (by rw [nI_clamp (by omega)]; exact rf_one49 (by omega)) ?_
        refine j_aload_n X 2 rfl rfl dX0_copyFrom_16 ?_
        refine j_get X (by decide) (wE_0 _ rfl) rfl awF0 2 (by decide) aw_60 rfl (v := .ref (ad 13)) rfl dX0_copyFrom_17 ?_
        refine j_iload_n X 0 rfl rfl dX0_copyFrom_20 ?_
        refine j_aald10 X (by decide) rfl (show vp_in (nI i_1) 9 from vp_in_nI (by omega) (by decide)) dX0_copyFrom_21 ?_
        refine j_eqr (v := 14 + i_1) (by rw [nI_clamp (by omega)]; exact rf_one12 (by omega)) ?_
        refine j_callVNV X (nn := 1) (As := [.ref (ad (14 + i_1))]) (st := []) (ci := 1) (by omega) (wE_1 _ (kd_one49 (by omega))) rfl aw_540 aw_541 (g_copyOne l D y ad M1 (51 + i_1) (by omega) (kd_one49 (by omega)) (14 + i_1) (by omega) (kd_one12 (by omega)) (by omega) (by rw [hs1 (14 + i_1) 6 (by simp only [Bool.or_eq_false_iff, Bool.and_eq_false_iff, beq_eq_false_iff_ne, ne_eq, decide_eq_false_iff_not]; omega)]; exact hB _ (by omega))) (List.mem_of_getElem? (i := 34) rfl) aw_542 aw_65 (by decide +kernel) ⟨by decide, by decide⟩ rfl (Nat.le_of_ble_eq_true rfl) ⟨by decide, by decide⟩ dX0_copyFrom_22 ?_
        rintro M_4 ⟨s_3, s_3_v⟩
        refine j_iinc X (v := (nI (i_1 + 1))) 0 [(2, .int (nI (i_1 + 1))), (0, .ref (ad 49)), (1, .ref (ad 12))] rfl (show nI i_1 + Int32.ofInt 1 = _ from nI_1 i_1) (by decide) rfl dX0_copyFrom_25 ?_
        refine j_goto X 2 (by decide) dX0_copyFrom_28 ?_
        refine j_lv (lv1 := [(2, .int (nI (i_1 + 1))), (0, .ref (ad 49)), (1, .ref (ad 12))]) [0, 1, 2] rfl ?_
        exact ih1 (i_1 + 1) _ (by omega) (by omega) (sm_tr hs1 (sm_w s_3 (by intro b k hb; first | rfl | exact hb | (simp only [Bool.or_eq_false_iff, Bool.and_eq_false_iff, beq_eq_false_iff_ne, ne_eq, decide_eq_false_iff_not] at hb ⊢; omega)))) (cp_step hvi_1 s_3 s_3_v (fun f => hs1 (14 + i_1) f (by simp only [Bool.or_eq_false_iff, Bool.and_eq_false_iff, beq_eq_false_iff_ne, ne_eq, decide_eq_false_iff_not]; omega)))
  refine j_lv (lv1 := [(2, .int (nI 0)), (0, .ref (ad 49)), (1, .ref (ad 12))]) [0, 1, 2] rfl ?_
  exact loop1 (n + 1) 0 _ (by omega) (by omega) sm_rf (fun q hq => absurd hq (by omega))
set_option maxRecDepth 100000 in
set_option maxHeartbeats 4000000 in
theorem g_copyGround_36_12 (l : Launch) (D : va_G) (y : wY) (ad : Nat → Nat) (M : Mem) (n : Nat) (hn : n ≤ 9) (hm : M 12 3 = nI n) (hB : ∀ q, q < 9 → BoolOK (M (14 + q) 6)) : MV l D y ad yX0_copyFrom (Cond.code yX0_copyFrom cX0_copyFrom 3 none) 1 M [.ref (ad 36), .ref (ad 12)] (fun M' => sm (fun b k => (b == 36 && decide (3 ≤ k) && decide (k ≤ 8)) || (decide (38 ≤ b) && decide (b ≤ 46))) M M' ∧ (∀ q, q < n → ∀ f, f < 7 → M' (38 + q) f = M (14 + q) f) ∧ (∀ f, 3 ≤ f → f ≤ 8 → M' 36 f = M 12 f)) := by
  refine MV_of (by decide) (Nat.le_of_ble_eq_true rfl) ?_
  intro p e s m args below meth c X hr hlocks
  refine j_lv (lv1 := [(0, .ref (ad 36)), (1, .ref (ad 12))]) [0, 1] rfl ?_
  refine j_iconst X (v := 0) (by decide) dX0_copyFrom_0 ?_
  refine j_istore_n X [(2, .int 0), (0, .ref (ad 36)), (1, .ref (ad 12))] rfl (by decide) rfl dX0_copyFrom_1 ?_
  have loop1 : ∀ (n_1 i_1 : Nat) (M1 : Mem), i_1 ≤ n → n - i_1 < n_1 → sm (fun b k => (b == 36 && decide (3 ≤ k) && decide (k ≤ 8)) || (decide (38 ≤ b) && decide (b ≤ 46))) M M1 → (∀ q, q < i_1 → ∀ f, f < 7 → M1 (38 + q) f = M (14 + q) f) → J p l e (rmN 1) s m args below meth c 0 0 (QV (fun M' => sm (fun b k => (b == 36 && decide (3 ≤ k) && decide (k ≤ 8)) || (decide (38 ≤ b) && decide (b ≤ 46))) M M' ∧ (∀ q, q < n → ∀ f, f < 7 → M' (38 + q) f = M (14 + q) f) ∧ (∀ f, 3 ≤ f → f ≤ 8 → M' 36 f = M 12 f)) D y ad M s args below) D y ad (va_A (PL y ad M) s.heap.size) 3 M1 2 [(2, .int (nI i_1)), (0, .ref (ad 36)), (1, .ref (ad 12))] [] := by
    intro n_1
    induction n_1 with
    | zero => intro i_1 M1 h1 h2; exact absurd h2 (by omega)
    | succ n_1 ih1 =>
      intro i_1 M1 h1i_1 h2i_1 hs1 hvi_1
      refine j_iload_n X 0 rfl rfl dX0_copyFrom_2 ?_
      refine j_aload_n X 2 rfl rfl dX0_copyFrom_3 ?_
      refine j_get X (by decide) (wE_0 _ rfl) rfl awF0 3 (by decide) aw_155 rfl (v := .int (M1 12 3)) rfl dX0_copyFrom_4 ?_
      refine j_eqi (v := (nI n)) ((hs1 12 3 rfl).trans hm) ?_
      refine j_icmp_ge X 31 (by decide) dX0_copyFrom_7 (fun c_2 => ?_) (fun c_2 => ?_)
      · have c_2 := (nI_leI (by omega) (by omega)).mp (show nI (n) ≤ nI i_1 from c_2)
        refine j_aload_n X 1 rfl rfl dX0_copyFrom_31 ?_
        refine j_aload_n X 2 rfl rfl dX0_copyFrom_32 ?_
        refine j_get X (by decide) (wE_0 _ rfl) rfl awF0 3 (by decide) aw_155 rfl (v := .int (M1 12 3)) rfl dX0_copyFrom_33 ?_
        refine j_eqi (v := (nI n)) ((hs1 12 3 rfl).trans hm) ?_
        refine j_put X (up M1 36 3 (nI n)) up_o (by decide) (wE_0 _ rfl) rfl awF0 3 (by decide) (wP_0_3 _ _ rfl) tyX0 tyX0_ok nmX0 rfl (ty := .int) (by decide +kernel) rfl rfl (Nat.le_of_ble_eq_true rfl) aw_155 rfl dX0_copyFrom_36 ?_
        refine j_aload_n X 1 rfl rfl dX0_copyFrom_39 ?_
        refine j_aload_n X 2 rfl rfl dX0_copyFrom_40 ?_
        refine j_get X (by decide) (wE_0 _ rfl) rfl awF0 4 (by decide) aw_124 rfl (v := .int ((up M1 36 3 (nI n)) 12 4)) rfl dX0_copyFrom_41 ?_
        refine j_eqi (v := M1 12 4) ((up_cell (by omega)).trans rfl) ?_
        refine j_put X (up (up M1 36 3 (nI n)) 36 4 (M1 12 4)) up_o (by decide) (wE_0 _ rfl) rfl awF0 4 (by decide) (wP_0_4 _ _ rfl) tyX0 tyX0_ok nmX0 rfl (ty := .int) (by decide +kernel) rfl rfl (Nat.le_of_ble_eq_true rfl) aw_124 rfl dX0_copyFrom_44 ?_
        refine j_aload_n X 1 rfl rfl dX0_copyFrom_47 ?_
        refine j_aload_n X 2 rfl rfl dX0_copyFrom_48 ?_
        refine j_get X (by decide) (wE_0 _ rfl) rfl awF0 5 (by decide) aw_61 rfl (v := .int ((up (up M1 36 3 (nI n)) 36 4 (M1 12 4)) 12 5)) rfl dX0_copyFrom_49 ?_
        refine j_eqi (v := M1 12 5) ((up_cell (by omega)).trans ((up_cell (by omega)).trans rfl)) ?_
        refine j_put X (up (up (up M1 36 3 (nI n)) 36 4 (M1 12 4)) 36 5 (M1 12 5)) up_o (by decide) (wE_0 _ rfl) rfl awF0 5 (by decide) (wP_0_5 _ _ rfl) tyX0 tyX0_ok nmX0 rfl (ty := .int) (by decide +kernel) rfl rfl (Nat.le_of_ble_eq_true rfl) aw_61 rfl dX0_copyFrom_52 ?_
        refine j_aload_n X 1 rfl rfl dX0_copyFrom_55 ?_
        refine j_aload_n X 2 rfl rfl dX0_copyFrom_56 ?_
        refine j_get X (by decide) (wE_0 _ rfl) rfl awF0 6 (by decide) aw_197 rfl (v := .int ((up (up (up M1 36 3 (nI n)) 36 4 (M1 12 4)) 36 5 (M1 12 5)) 12 6)) rfl dX0_copyFrom_57 ?_
        refine j_eqi (v := M1 12 6) ((up_cell (by omega)).trans ((up_cell (by omega)).trans ((up_cell (by omega)).trans rfl))) ?_
        refine j_put X (up (up (up (up M1 36 3 (nI n)) 36 4 (M1 12 4)) 36 5 (M1 12 5)) 36 6 (M1 12 6)) up_o (by decide) (wE_0 _ rfl) rfl awF0 6 (by decide) (wP_0_6 _ _ rfl) tyX0 tyX0_ok nmX0 rfl (ty := .int) (by decide +kernel) rfl rfl (Nat.le_of_ble_eq_true rfl) aw_197 rfl dX0_copyFrom_60 ?_
        refine j_aload_n X 1 rfl rfl dX0_copyFrom_63 ?_
        refine j_aload_n X 2 rfl rfl dX0_copyFrom_64 ?_
        refine j_get X (by decide) (wE_0 _ rfl) rfl awF0 7 (by decide) aw_125 rfl (v := .int ((up (up (up (up M1 36 3 (nI n)) 36 4 (M1 12 4)) 36 5 (M1 12 5)) 36 6 (M1 12 6)) 12 7)) rfl dX0_copyFrom_65 ?_
        refine j_eqi (v := M1 12 7) ((up_cell (by omega)).trans ((up_cell (by omega)).trans ((up_cell (by omega)).trans ((up_cell (by omega)).trans rfl)))) ?_
        refine j_put X (up (up (up (up (up M1 36 3 (nI n)) 36 4 (M1 12 4)) 36 5 (M1 12 5)) 36 6 (M1 12 6)) 36 7 (M1 12 7)) up_o (by decide) (wE_0 _ rfl) rfl awF0 7 (by decide) (wP_0_7 _ _ rfl) tyX0 tyX0_ok nmX0 rfl (ty := .int) (by decide +kernel) rfl rfl (Nat.le_of_ble_eq_true rfl) aw_125 rfl dX0_copyFrom_68 ?_
        refine j_aload_n X 1 rfl rfl dX0_copyFrom_71 ?_
        refine j_aload_n X 2 rfl rfl dX0_copyFrom_72 ?_
        refine j_get X (by decide) (wE_0 _ rfl) rfl awF0 8 (by decide) aw_126 rfl (v := .int ((up (up (up (up (up M1 36 3 (nI n)) 36 4 (M1 12 4)) 36 5 (M1 12 5)) 36 6 (M1 12 6)) 36 7 (M1 12 7)) 12 8)) rfl dX0_copyFrom_73 ?_
        refine j_eqi (v := M1 12 8) ((up_cell (by omega)).trans ((up_cell (by omega)).trans ((up_cell (by omega)).trans ((up_cell (by omega)).trans ((up_cell (by omega)).trans rfl))))) ?_
        refine j_put X (up (up (up (up (up (up M1 36 3 (nI n)) 36 4 (M1 12 4)) 36 5 (M1 12 5)) 36 6 (M1 12 6)) 36 7 (M1 12 7)) 36 8 (M1 12 8)) up_o (by decide) (wE_0 _ rfl) rfl awF0 8 (by decide) (wP_0_8 _ _ rfl) tyX0 tyX0_ok nmX0 rfl (ty := .int) (by decide +kernel) rfl rfl (Nat.le_of_ble_eq_true rfl) aw_126 rfl dX0_copyFrom_76 ?_
        exact j_vret X hr hlocks dX0_copyFrom_79 ⟨(sm_up (sm_up (sm_up (sm_up (sm_up (sm_up (sm_tr sm_rf (sm_w hs1 (by intro b k hb; first | rfl | exact hb | (simp only [Bool.or_eq_false_iff, Bool.and_eq_false_iff, beq_eq_false_iff_ne, ne_eq, decide_eq_false_iff_not] at hb ⊢; omega)))) rfl) rfl) rfl) rfl) rfl) rfl), fun q hq f hf => by rw [up_cell (by omega), up_cell (by omega), up_cell (by omega), up_cell (by omega), up_cell (by omega), up_cell (by omega)]; exact hvi_1 q (by omega) f hf, fun f h3 h8 => by rcases (by omega : f = 3 ∨ f = 4 ∨ f = 5 ∨ f = 6 ∨ f = 7 ∨ f = 8) with rfl | rfl | rfl | rfl | rfl | rfl <;> simp [up] <;> first | exact hs1 12 _ rfl | exact hm.symm | rfl⟩
      · have c_2 : i_1 < n := by
          rcases Nat.lt_or_ge i_1 (n) with g | g
          · exact g
          · exact absurd (show nI (n) ≤ nI i_1 from nI_le g (by omega)) c_2
        refine j_aload_n X 1 rfl rfl dX0_copyFrom_10 ?_
        refine j_get X (by decide) (wE_0 _ rfl) rfl awF0 2 (by decide) aw_60 rfl (v := .ref (ad 37)) rfl dX0_copyFrom_11 ?_
        refine j_iload_n X 0 rfl rfl dX0_copyFrom_14 ?_
        refine j_aald10 X (by decide) rfl (show vp_in (nI i_1) 9 from vp_in_nI (by omega) (by decide)) dX0_copyFrom_15 ?_
        refine j_eqr (v := 38 + i_1) (by rw [nI_clamp (by omega)]; exact rf_one36 (by omega)) ?_
        refine j_aload_n X 2 rfl rfl dX0_copyFrom_16 ?_
        refine j_get X (by decide) (wE_0 _ rfl) rfl awF0 2 (by decide) aw_60 rfl (v := .ref (ad 13)) rfl dX0_copyFrom_17 ?_
        refine j_iload_n X 0 rfl rfl dX0_copyFrom_20 ?_
        refine j_aald10 X (by decide) rfl (show vp_in (nI i_1) 9 from vp_in_nI (by omega) (by decide)) dX0_copyFrom_21 ?_
        refine j_eqr (v := 14 + i_1) (by rw [nI_clamp (by omega)]; exact rf_one12 (by omega)) ?_
        refine j_callVNV X (nn := 1) (As := [.ref (ad (14 + i_1))]) (st := []) (ci := 1) (by omega) (wE_1 _ (kd_one36 (by omega))) rfl aw_540 aw_541 (g_copyOne l D y ad M1 (38 + i_1) (by omega) (kd_one36 (by omega)) (14 + i_1) (by omega) (kd_one12 (by omega)) (by omega) (by rw [hs1 (14 + i_1) 6 (by simp only [Bool.or_eq_false_iff, Bool.and_eq_false_iff, beq_eq_false_iff_ne, ne_eq, decide_eq_false_iff_not]; omega)]; exact hB _ (by omega))) (List.mem_of_getElem? (i := 34) rfl) aw_542 aw_65 (by decide +kernel) ⟨by decide, by decide⟩ rfl (Nat.le_of_ble_eq_true rfl) ⟨by decide, by decide⟩ dX0_copyFrom_22 ?_
        rintro M_4 ⟨s_3, s_3_v⟩
        refine j_iinc X (v := (nI (i_1 + 1))) 0 [(2, .int (nI (i_1 + 1))), (0, .ref (ad 36)), (1, .ref (ad 12))] rfl (show nI i_1 + Int32.ofInt 1 = _ from nI_1 i_1) (by decide) rfl dX0_copyFrom_25 ?_
        refine j_goto X 2 (by decide) dX0_copyFrom_28 ?_
        refine j_lv (lv1 := [(2, .int (nI (i_1 + 1))), (0, .ref (ad 36)), (1, .ref (ad 12))]) [0, 1, 2] rfl ?_
        exact ih1 (i_1 + 1) _ (by omega) (by omega) (sm_tr hs1 (sm_w s_3 (by intro b k hb; first | rfl | exact hb | (simp only [Bool.or_eq_false_iff, Bool.and_eq_false_iff, beq_eq_false_iff_ne, ne_eq, decide_eq_false_iff_not] at hb ⊢; omega)))) (cp_step hvi_1 s_3 s_3_v (fun f => hs1 (14 + i_1) f (by simp only [Bool.or_eq_false_iff, Bool.and_eq_false_iff, beq_eq_false_iff_ne, ne_eq, decide_eq_false_iff_not]; omega)))
  refine j_lv (lv1 := [(2, .int (nI 0)), (0, .ref (ad 36)), (1, .ref (ad 12))]) [0, 1, 2] rfl ?_
  exact loop1 (n + 1) 0 _ (by omega) (by omega) sm_rf (fun q hq => absurd hq (by omega))
set_option maxRecDepth 100000 in
set_option maxHeartbeats 4000000 in
theorem g_copyGround_12_36 (l : Launch) (D : va_G) (y : wY) (ad : Nat → Nat) (M : Mem) (n : Nat) (hn : n ≤ 9) (hm : M 36 3 = nI n) (hB : ∀ q, q < 9 → BoolOK (M (38 + q) 6)) : MV l D y ad yX0_copyFrom (Cond.code yX0_copyFrom cX0_copyFrom 3 none) 1 M [.ref (ad 12), .ref (ad 36)] (fun M' => sm (fun b k => (b == 12 && decide (3 ≤ k) && decide (k ≤ 8)) || (decide (14 ≤ b) && decide (b ≤ 22))) M M' ∧ (∀ q, q < n → ∀ f, f < 7 → M' (14 + q) f = M (38 + q) f) ∧ (∀ f, 3 ≤ f → f ≤ 8 → M' 12 f = M 36 f)) := by
  refine MV_of (by decide) (Nat.le_of_ble_eq_true rfl) ?_
  intro p e s m args below meth c X hr hlocks
  refine j_lv (lv1 := [(0, .ref (ad 12)), (1, .ref (ad 36))]) [0, 1] rfl ?_
  refine j_iconst X (v := 0) (by decide) dX0_copyFrom_0 ?_
  refine j_istore_n X [(2, .int 0), (0, .ref (ad 12)), (1, .ref (ad 36))] rfl (by decide) rfl dX0_copyFrom_1 ?_
  have loop1 : ∀ (n_1 i_1 : Nat) (M1 : Mem), i_1 ≤ n → n - i_1 < n_1 → sm (fun b k => (b == 12 && decide (3 ≤ k) && decide (k ≤ 8)) || (decide (14 ≤ b) && decide (b ≤ 22))) M M1 → (∀ q, q < i_1 → ∀ f, f < 7 → M1 (14 + q) f = M (38 + q) f) → J p l e (rmN 1) s m args below meth c 0 0 (QV (fun M' => sm (fun b k => (b == 12 && decide (3 ≤ k) && decide (k ≤ 8)) || (decide (14 ≤ b) && decide (b ≤ 22))) M M' ∧ (∀ q, q < n → ∀ f, f < 7 → M' (14 + q) f = M (38 + q) f) ∧ (∀ f, 3 ≤ f → f ≤ 8 → M' 12 f = M 36 f)) D y ad M s args below) D y ad (va_A (PL y ad M) s.heap.size) 3 M1 2 [(2, .int (nI i_1)), (0, .ref (ad 12)), (1, .ref (ad 36))] [] := by
    intro n_1
    induction n_1 with
    | zero => intro i_1 M1 h1 h2; exact absurd h2 (by omega)
    | succ n_1 ih1 =>
      intro i_1 M1 h1i_1 h2i_1 hs1 hvi_1
      refine j_iload_n X 0 rfl rfl dX0_copyFrom_2 ?_
      refine j_aload_n X 2 rfl rfl dX0_copyFrom_3 ?_
      refine j_get X (by decide) (wE_0 _ rfl) rfl awF0 3 (by decide) aw_155 rfl (v := .int (M1 36 3)) rfl dX0_copyFrom_4 ?_
      refine j_eqi (v := (nI n)) ((hs1 36 3 rfl).trans hm) ?_
      refine j_icmp_ge X 31 (by decide) dX0_copyFrom_7 (fun c_2 => ?_) (fun c_2 => ?_)
      · have c_2 := (nI_leI (by omega) (by omega)).mp (show nI (n) ≤ nI i_1 from c_2)
        refine j_aload_n X 1 rfl rfl dX0_copyFrom_31 ?_
        refine j_aload_n X 2 rfl rfl dX0_copyFrom_32 ?_
        refine j_get X (by decide) (wE_0 _ rfl) rfl awF0 3 (by decide) aw_155 rfl (v := .int (M1 36 3)) rfl dX0_copyFrom_33 ?_
        refine j_eqi (v := (nI n)) ((hs1 36 3 rfl).trans hm) ?_
        refine j_put X (up M1 12 3 (nI n)) up_o (by decide) (wE_0 _ rfl) rfl awF0 3 (by decide) (wP_0_3 _ _ rfl) tyX0 tyX0_ok nmX0 rfl (ty := .int) (by decide +kernel) rfl rfl (Nat.le_of_ble_eq_true rfl) aw_155 rfl dX0_copyFrom_36 ?_
        refine j_aload_n X 1 rfl rfl dX0_copyFrom_39 ?_
        refine j_aload_n X 2 rfl rfl dX0_copyFrom_40 ?_
        refine j_get X (by decide) (wE_0 _ rfl) rfl awF0 4 (by decide) aw_124 rfl (v := .int ((up M1 12 3 (nI n)) 36 4)) rfl dX0_copyFrom_41 ?_
        refine j_eqi (v := M1 36 4) ((up_cell (by omega)).trans rfl) ?_
        refine j_put X (up (up M1 12 3 (nI n)) 12 4 (M1 36 4)) up_o (by decide) (wE_0 _ rfl) rfl awF0 4 (by decide) (wP_0_4 _ _ rfl) tyX0 tyX0_ok nmX0 rfl (ty := .int) (by decide +kernel) rfl rfl (Nat.le_of_ble_eq_true rfl) aw_124 rfl dX0_copyFrom_44 ?_
        refine j_aload_n X 1 rfl rfl dX0_copyFrom_47 ?_
        refine j_aload_n X 2 rfl rfl dX0_copyFrom_48 ?_
        refine j_get X (by decide) (wE_0 _ rfl) rfl awF0 5 (by decide) aw_61 rfl (v := .int ((up (up M1 12 3 (nI n)) 12 4 (M1 36 4)) 36 5)) rfl dX0_copyFrom_49 ?_
        refine j_eqi (v := M1 36 5) ((up_cell (by omega)).trans ((up_cell (by omega)).trans rfl)) ?_
        refine j_put X (up (up (up M1 12 3 (nI n)) 12 4 (M1 36 4)) 12 5 (M1 36 5)) up_o (by decide) (wE_0 _ rfl) rfl awF0 5 (by decide) (wP_0_5 _ _ rfl) tyX0 tyX0_ok nmX0 rfl (ty := .int) (by decide +kernel) rfl rfl (Nat.le_of_ble_eq_true rfl) aw_61 rfl dX0_copyFrom_52 ?_
        refine j_aload_n X 1 rfl rfl dX0_copyFrom_55 ?_
        refine j_aload_n X 2 rfl rfl dX0_copyFrom_56 ?_
        refine j_get X (by decide) (wE_0 _ rfl) rfl awF0 6 (by decide) aw_197 rfl (v := .int ((up (up (up M1 12 3 (nI n)) 12 4 (M1 36 4)) 12 5 (M1 36 5)) 36 6)) rfl dX0_copyFrom_57 ?_
        refine j_eqi (v := M1 36 6) ((up_cell (by omega)).trans ((up_cell (by omega)).trans ((up_cell (by omega)).trans rfl))) ?_
        refine j_put X (up (up (up (up M1 12 3 (nI n)) 12 4 (M1 36 4)) 12 5 (M1 36 5)) 12 6 (M1 36 6)) up_o (by decide) (wE_0 _ rfl) rfl awF0 6 (by decide) (wP_0_6 _ _ rfl) tyX0 tyX0_ok nmX0 rfl (ty := .int) (by decide +kernel) rfl rfl (Nat.le_of_ble_eq_true rfl) aw_197 rfl dX0_copyFrom_60 ?_
        refine j_aload_n X 1 rfl rfl dX0_copyFrom_63 ?_
        refine j_aload_n X 2 rfl rfl dX0_copyFrom_64 ?_
        refine j_get X (by decide) (wE_0 _ rfl) rfl awF0 7 (by decide) aw_125 rfl (v := .int ((up (up (up (up M1 12 3 (nI n)) 12 4 (M1 36 4)) 12 5 (M1 36 5)) 12 6 (M1 36 6)) 36 7)) rfl dX0_copyFrom_65 ?_
        refine j_eqi (v := M1 36 7) ((up_cell (by omega)).trans ((up_cell (by omega)).trans ((up_cell (by omega)).trans ((up_cell (by omega)).trans rfl)))) ?_
        refine j_put X (up (up (up (up (up M1 12 3 (nI n)) 12 4 (M1 36 4)) 12 5 (M1 36 5)) 12 6 (M1 36 6)) 12 7 (M1 36 7)) up_o (by decide) (wE_0 _ rfl) rfl awF0 7 (by decide) (wP_0_7 _ _ rfl) tyX0 tyX0_ok nmX0 rfl (ty := .int) (by decide +kernel) rfl rfl (Nat.le_of_ble_eq_true rfl) aw_125 rfl dX0_copyFrom_68 ?_
        refine j_aload_n X 1 rfl rfl dX0_copyFrom_71 ?_
        refine j_aload_n X 2 rfl rfl dX0_copyFrom_72 ?_
        refine j_get X (by decide) (wE_0 _ rfl) rfl awF0 8 (by decide) aw_126 rfl (v := .int ((up (up (up (up (up M1 12 3 (nI n)) 12 4 (M1 36 4)) 12 5 (M1 36 5)) 12 6 (M1 36 6)) 12 7 (M1 36 7)) 36 8)) rfl dX0_copyFrom_73 ?_
        refine j_eqi (v := M1 36 8) ((up_cell (by omega)).trans ((up_cell (by omega)).trans ((up_cell (by omega)).trans ((up_cell (by omega)).trans ((up_cell (by omega)).trans rfl))))) ?_
        refine j_put X (up (up (up (up (up (up M1 12 3 (nI n)) 12 4 (M1 36 4)) 12 5 (M1 36 5)) 12 6 (M1 36 6)) 12 7 (M1 36 7)) 12 8 (M1 36 8)) up_o (by decide) (wE_0 _ rfl) rfl awF0 8 (by decide) (wP_0_8 _ _ rfl) tyX0 tyX0_ok nmX0 rfl (ty := .int) (by decide +kernel) rfl rfl (Nat.le_of_ble_eq_true rfl) aw_126 rfl dX0_copyFrom_76 ?_
        exact j_vret X hr hlocks dX0_copyFrom_79 ⟨(sm_up (sm_up (sm_up (sm_up (sm_up (sm_up (sm_tr sm_rf (sm_w hs1 (by intro b k hb; first | rfl | exact hb | (simp only [Bool.or_eq_false_iff, Bool.and_eq_false_iff, beq_eq_false_iff_ne, ne_eq, decide_eq_false_iff_not] at hb ⊢; omega)))) rfl) rfl) rfl) rfl) rfl) rfl), fun q hq f hf => by rw [up_cell (by omega), up_cell (by omega), up_cell (by omega), up_cell (by omega), up_cell (by omega), up_cell (by omega)]; exact hvi_1 q (by omega) f hf, fun f h3 h8 => by rcases (by omega : f = 3 ∨ f = 4 ∨ f = 5 ∨ f = 6 ∨ f = 7 ∨ f = 8) with rfl | rfl | rfl | rfl | rfl | rfl <;> simp [up] <;> first | exact hs1 36 _ rfl | exact hm.symm | rfl⟩
      · have c_2 : i_1 < n := by
          rcases Nat.lt_or_ge i_1 (n) with g | g
          · exact g
          · exact absurd (show nI (n) ≤ nI i_1 from nI_le g (by omega)) c_2
        refine j_aload_n X 1 rfl rfl dX0_copyFrom_10 ?_
        refine j_get X (by decide) (wE_0 _ rfl) rfl awF0 2 (by decide) aw_60 rfl (v := .ref (ad 13)) rfl dX0_copyFrom_11 ?_
        refine j_iload_n X 0 rfl rfl dX0_copyFrom_14 ?_
        refine j_aald10 X (by decide) rfl (show vp_in (nI i_1) 9 from vp_in_nI (by omega) (by decide)) dX0_copyFrom_15 ?_
        refine j_eqr (v := 14 + i_1) (by rw [nI_clamp (by omega)]; exact rf_one12 (by omega)) ?_
        refine j_aload_n X 2 rfl rfl dX0_copyFrom_16 ?_
        refine j_get X (by decide) (wE_0 _ rfl) rfl awF0 2 (by decide) aw_60 rfl (v := .ref (ad 37)) rfl dX0_copyFrom_17 ?_
        refine j_iload_n X 0 rfl rfl dX0_copyFrom_20 ?_
        refine j_aald10 X (by decide) rfl (show vp_in (nI i_1) 9 from vp_in_nI (by omega) (by decide)) dX0_copyFrom_21 ?_
        refine j_eqr (v := 38 + i_1) (by rw [nI_clamp (by omega)]; exact rf_one36 (by omega)) ?_
        refine j_callVNV X (nn := 1) (As := [.ref (ad (38 + i_1))]) (st := []) (ci := 1) (by omega) (wE_1 _ (kd_one12 (by omega))) rfl aw_540 aw_541 (g_copyOne l D y ad M1 (14 + i_1) (by omega) (kd_one12 (by omega)) (38 + i_1) (by omega) (kd_one36 (by omega)) (by omega) (by rw [hs1 (38 + i_1) 6 (by simp only [Bool.or_eq_false_iff, Bool.and_eq_false_iff, beq_eq_false_iff_ne, ne_eq, decide_eq_false_iff_not]; omega)]; exact hB _ (by omega))) (List.mem_of_getElem? (i := 34) rfl) aw_542 aw_65 (by decide +kernel) ⟨by decide, by decide⟩ rfl (Nat.le_of_ble_eq_true rfl) ⟨by decide, by decide⟩ dX0_copyFrom_22 ?_
        rintro M_4 ⟨s_3, s_3_v⟩
        refine j_iinc X (v := (nI (i_1 + 1))) 0 [(2, .int (nI (i_1 + 1))), (0, .ref (ad 12)), (1, .ref (ad 36))] rfl (show nI i_1 + Int32.ofInt 1 = _ from nI_1 i_1) (by decide) rfl dX0_copyFrom_25 ?_
        refine j_goto X 2 (by decide) dX0_copyFrom_28 ?_
        refine j_lv (lv1 := [(2, .int (nI (i_1 + 1))), (0, .ref (ad 12)), (1, .ref (ad 36))]) [0, 1, 2] rfl ?_
        exact ih1 (i_1 + 1) _ (by omega) (by omega) (sm_tr hs1 (sm_w s_3 (by intro b k hb; first | rfl | exact hb | (simp only [Bool.or_eq_false_iff, Bool.and_eq_false_iff, beq_eq_false_iff_ne, ne_eq, decide_eq_false_iff_not] at hb ⊢; omega)))) (cp_step hvi_1 s_3 s_3_v (fun f => hs1 (38 + i_1) f (by simp only [Bool.or_eq_false_iff, Bool.and_eq_false_iff, beq_eq_false_iff_ne, ne_eq, decide_eq_false_iff_not]; omega)))
  refine j_lv (lv1 := [(2, .int (nI 0)), (0, .ref (ad 12)), (1, .ref (ad 36))]) [0, 1, 2] rfl ?_
  exact loop1 (n + 1) 0 _ (by omega) (by omega) sm_rf (fun q hq => absurd hq (by omega))
