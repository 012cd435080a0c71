def Cl (c k : Nat) : Prop := c < 92 ∧ kd c = k
theorem cl_0 : Cl 0 7 := by unfold Cl; decide
theorem cl_1 : Cl 1 6 := by unfold Cl; decide
theorem cl_12 : Cl 12 0 := by unfold Cl; decide
theorem cl_13 : Cl 13 10 := by unfold Cl; decide
theorem cl_23 : Cl 23 9 := by unfold Cl; decide
theorem cl_24 : Cl 24 9 := by unfold Cl; decide
theorem cl_25 : Cl 25 6 := by unfold Cl; decide
theorem cl_49 : Cl 49 0 := by unfold Cl; decide
theorem cl_50 : Cl 50 10 := by unfold Cl; decide
theorem cl_60 : Cl 60 2 := by unfold Cl; decide
theorem cl_61 : Cl 61 4 := by unfold Cl; decide
theorem cl_66 : Cl 66 9 := by unfold Cl; decide
theorem cl_67 : Cl 67 5 := by unfold Cl; decide
theorem cl_68 : Cl 68 9 := by unfold Cl; decide
theorem cl_69 : Cl 69 11 := by unfold Cl; decide
theorem cl_78 : Cl 78 9 := by unfold Cl; decide
theorem cl_79 : Cl 79 8 := by unfold Cl; decide
theorem cl_80 : Cl 80 9 := by unfold Cl; decide
theorem cl_81 : Cl 81 9 := by unfold Cl; decide
theorem cl_82 : Cl 82 9 := by unfold Cl; decide
theorem cl_83 : Cl 83 9 := by unfold Cl; decide
theorem cl_84 : Cl 84 9 := by unfold Cl; decide
theorem cl_85 : Cl 85 9 := by unfold Cl; decide
theorem cl_86 : Cl 86 9 := by unfold Cl; decide
theorem cl_87 : Cl 87 9 := by unfold Cl; decide
theorem cl_88 : Cl 88 9 := by unfold Cl; decide
theorem cl_89 : Cl 89 9 := by unfold Cl; decide
theorem cl_90 : Cl 90 9 := by unfold Cl; decide
theorem cl_91 : Cl 91 9 := by unfold Cl; decide
theorem vp_lt {i : Int32} {n : Nat} (h : vp_in i n) : i.toNatClampNeg < n := by
  unfold vp_in at h
  omega
theorem re_13 {i : Int32} (h : vp_in i 9) : rf 13 i.toNatClampNeg = 14 + i.toNatClampNeg := (by decide +kernel : ∀ j : Nat, j < 9 → rf 13 j = 14 + j) _ (vp_lt h)
theorem rc_13 {i : Int32} (h : vp_in i 9) : Cl (14 + i.toNatClampNeg) 1 := (by unfold Cl; decide +kernel : ∀ j : Nat, j < 9 → Cl (14 + j) 1) _ (vp_lt h)
theorem re_37 {i : Int32} (h : vp_in i 9) : rf 37 i.toNatClampNeg = 38 + i.toNatClampNeg := (by decide +kernel : ∀ j : Nat, j < 9 → rf 37 j = 38 + j) _ (vp_lt h)
theorem rc_37 {i : Int32} (h : vp_in i 9) : Cl (38 + i.toNatClampNeg) 1 := (by unfold Cl; decide +kernel : ∀ j : Nat, j < 9 → Cl (38 + j) 1) _ (vp_lt h)
theorem re_50 {i : Int32} (h : vp_in i 9) : rf 50 i.toNatClampNeg = 51 + i.toNatClampNeg := (by decide +kernel : ∀ j : Nat, j < 9 → rf 50 j = 51 + j) _ (vp_lt h)
theorem rc_50 {i : Int32} (h : vp_in i 9) : Cl (51 + i.toNatClampNeg) 1 := (by unfold Cl; decide +kernel : ∀ j : Nat, j < 9 → Cl (51 + j) 1) _ (vp_lt h)
theorem re_69 {i : Int32} (h : vp_in i 4) : rf 69 i.toNatClampNeg = 70 + 2 * i.toNatClampNeg := (by decide +kernel : ∀ j : Nat, j < 4 → rf 69 j = 70 + 2 * j) _ (vp_lt h)
theorem rc_69 {i : Int32} (h : vp_in i 4) : Cl (70 + 2 * i.toNatClampNeg) 3 := (by unfold Cl; decide +kernel : ∀ j : Nat, j < 4 → Cl (70 + 2 * j) 3) _ (vp_lt h)
set_option maxRecDepth 100000 in
theorem kf_0_0 {x : Nat} (h : Cl x 0) : Cl (rf x 0) 4 := (by unfold Cl; decide +kernel : ∀ x : Nat, x < 92 → kd x = 0 → Cl (rf x 0) 4) x h.1 h.2
set_option maxRecDepth 100000 in
theorem kf_0_1 {x : Nat} (h : Cl x 0) : Cl (rf x 1) 4 := (by unfold Cl; decide +kernel : ∀ x : Nat, x < 92 → kd x = 0 → Cl (rf x 1) 4) x h.1 h.2
set_option maxRecDepth 100000 in
theorem kf_0_2 {x : Nat} (h : Cl x 0) : Cl (rf x 2) 10 := (by unfold Cl; decide +kernel : ∀ x : Nat, x < 92 → kd x = 0 → Cl (rf x 2) 10) x h.1 h.2
set_option maxRecDepth 100000 in
theorem kf_2_0 {x : Nat} (h : Cl x 2) : Cl (rf x 0) 4 := (by unfold Cl; decide +kernel : ∀ x : Nat, x < 92 → kd x = 2 → Cl (rf x 0) 4) x h.1 h.2
set_option maxRecDepth 100000 in
theorem kf_2_1 {x : Nat} (h : Cl x 2) : Cl (rf x 1) 9 := (by unfold Cl; decide +kernel : ∀ x : Nat, x < 92 → kd x = 2 → Cl (rf x 1) 9) x h.1 h.2
set_option maxRecDepth 100000 in
theorem kf_3_0 {x : Nat} (h : Cl x 3) : Cl (rf x 0) 9 := (by unfold Cl; decide +kernel : ∀ x : Nat, x < 92 → kd x = 3 → Cl (rf x 0) 9) x h.1 h.2
set_option maxRecDepth 100000 in
theorem kf_4_0 {x : Nat} (h : Cl x 4) : Cl (rf x 0) 9 := (by unfold Cl; decide +kernel : ∀ x : Nat, x < 92 → kd x = 4 → Cl (rf x 0) 9) x h.1 h.2
set_option maxRecDepth 100000 in
theorem kf_4_1 {x : Nat} (h : Cl x 4) : Cl (rf x 1) 9 := (by unfold Cl; decide +kernel : ∀ x : Nat, x < 92 → kd x = 4 → Cl (rf x 1) 9) x h.1 h.2
set_option maxRecDepth 100000 in
theorem kf_4_2 {x : Nat} (h : Cl x 4) : Cl (rf x 2) 9 := (by unfold Cl; decide +kernel : ∀ x : Nat, x < 92 → kd x = 4 → Cl (rf x 2) 9) x h.1 h.2
set_option maxRecDepth 100000 in
theorem kf_4_3 {x : Nat} (h : Cl x 4) : Cl (rf x 3) 9 := (by unfold Cl; decide +kernel : ∀ x : Nat, x < 92 → kd x = 4 → Cl (rf x 3) 9) x h.1 h.2
set_option maxRecDepth 100000 in
theorem kf_5_0 {x : Nat} (h : Cl x 5) : Cl (rf x 0) 9 := (by unfold Cl; decide +kernel : ∀ x : Nat, x < 92 → kd x = 5 → Cl (rf x 0) 9) x h.1 h.2
set_option maxRecDepth 100000 in
theorem kf_6_0 {x : Nat} (h : Cl x 6) : Cl (rf x 0) 4 := (by unfold Cl; decide +kernel : ∀ x : Nat, x < 92 → kd x = 6 → Cl (rf x 0) 4) x h.1 h.2
set_option maxRecDepth 100000 in
theorem kf_6_1 {x : Nat} (h : Cl x 6) : Cl (rf x 1) 4 := (by unfold Cl; decide +kernel : ∀ x : Nat, x < 92 → kd x = 6 → Cl (rf x 1) 4) x h.1 h.2
set_option maxRecDepth 100000 in
theorem kf_6_2 {x : Nat} (h : Cl x 6) : Cl (rf x 2) 0 := (by unfold Cl; decide +kernel : ∀ x : Nat, x < 92 → kd x = 6 → Cl (rf x 2) 0) x h.1 h.2
set_option maxRecDepth 100000 in
theorem kf_6_3 {x : Nat} (h : Cl x 6) : Cl (rf x 3) 9 := (by unfold Cl; decide +kernel : ∀ x : Nat, x < 92 → kd x = 6 → Cl (rf x 3) 9) x h.1 h.2
set_option maxRecDepth 100000 in
theorem kf_6_4 {x : Nat} (h : Cl x 6) : Cl (rf x 4) 9 := (by unfold Cl; decide +kernel : ∀ x : Nat, x < 92 → kd x = 6 → Cl (rf x 4) 9) x h.1 h.2
set_option maxRecDepth 100000 in
theorem kf_7_0 {x : Nat} (h : Cl x 7) : Cl (rf x 0) 6 := (by unfold Cl; decide +kernel : ∀ x : Nat, x < 92 → kd x = 7 → Cl (rf x 0) 6) x h.1 h.2
set_option maxRecDepth 100000 in
theorem kf_7_1 {x : Nat} (h : Cl x 7) : Cl (rf x 1) 6 := (by unfold Cl; decide +kernel : ∀ x : Nat, x < 92 → kd x = 7 → Cl (rf x 1) 6) x h.1 h.2
set_option maxRecDepth 100000 in
theorem kf_7_2 {x : Nat} (h : Cl x 7) : Cl (rf x 2) 0 := (by unfold Cl; decide +kernel : ∀ x : Nat, x < 92 → kd x = 7 → Cl (rf x 2) 0) x h.1 h.2
set_option maxRecDepth 100000 in
theorem kf_7_3 {x : Nat} (h : Cl x 7) : Cl (rf x 3) 2 := (by unfold Cl; decide +kernel : ∀ x : Nat, x < 92 → kd x = 7 → Cl (rf x 3) 2) x h.1 h.2
set_option maxRecDepth 100000 in
theorem kf_7_4 {x : Nat} (h : Cl x 7) : Cl (rf x 4) 5 := (by unfold Cl; decide +kernel : ∀ x : Nat, x < 92 → kd x = 7 → Cl (rf x 4) 5) x h.1 h.2
set_option maxRecDepth 100000 in
theorem kf_7_5 {x : Nat} (h : Cl x 7) : Cl (rf x 5) 11 := (by unfold Cl; decide +kernel : ∀ x : Nat, x < 92 → kd x = 7 → Cl (rf x 5) 11) x h.1 h.2
set_option maxRecDepth 100000 in
theorem kf_7_6 {x : Nat} (h : Cl x 7) : Cl (rf x 6) 9 := (by unfold Cl; decide +kernel : ∀ x : Nat, x < 92 → kd x = 7 → Cl (rf x 6) 9) x h.1 h.2
set_option maxRecDepth 100000 in
theorem kf_8_0 {x : Nat} (h : Cl x 8) : Cl (rf x 0) 9 := (by unfold Cl; decide +kernel : ∀ x : Nat, x < 92 → kd x = 8 → Cl (rf x 0) 9) x h.1 h.2
set_option maxRecDepth 100000 in
theorem kf_8_1 {x : Nat} (h : Cl x 8) : Cl (rf x 1) 9 := (by unfold Cl; decide +kernel : ∀ x : Nat, x < 92 → kd x = 8 → Cl (rf x 1) 9) x h.1 h.2
set_option maxRecDepth 100000 in
theorem kf_8_2 {x : Nat} (h : Cl x 8) : Cl (rf x 2) 9 := (by unfold Cl; decide +kernel : ∀ x : Nat, x < 92 → kd x = 8 → Cl (rf x 2) 9) x h.1 h.2
set_option maxRecDepth 100000 in
theorem kf_8_5 {x : Nat} (h : Cl x 8) : Cl (rf x 5) 9 := (by unfold Cl; decide +kernel : ∀ x : Nat, x < 92 → kd x = 8 → Cl (rf x 5) 9) x h.1 h.2
set_option maxRecDepth 100000 in
theorem kf_8_12 {x : Nat} (h : Cl x 8) : Cl (rf x 12) 9 := (by unfold Cl; decide +kernel : ∀ x : Nat, x < 92 → kd x = 8 → Cl (rf x 12) 9) x h.1 h.2
set_option maxRecDepth 100000 in
theorem kf_8_13 {x : Nat} (h : Cl x 8) : Cl (rf x 13) 9 := (by unfold Cl; decide +kernel : ∀ x : Nat, x < 92 → kd x = 8 → Cl (rf x 13) 9) x h.1 h.2
set_option maxRecDepth 100000 in
theorem kf_8_14 {x : Nat} (h : Cl x 8) : Cl (rf x 14) 9 := (by unfold Cl; decide +kernel : ∀ x : Nat, x < 92 → kd x = 8 → Cl (rf x 14) 9) x h.1 h.2
set_option maxRecDepth 100000 in
theorem kf_8_15 {x : Nat} (h : Cl x 8) : Cl (rf x 15) 9 := (by unfold Cl; decide +kernel : ∀ x : Nat, x < 92 → kd x = 8 → Cl (rf x 15) 9) x h.1 h.2
set_option maxRecDepth 100000 in
theorem kf_8_16 {x : Nat} (h : Cl x 8) : Cl (rf x 16) 9 := (by unfold Cl; decide +kernel : ∀ x : Nat, x < 92 → kd x = 8 → Cl (rf x 16) 9) x h.1 h.2
set_option maxRecDepth 100000 in
theorem kf_8_17 {x : Nat} (h : Cl x 8) : Cl (rf x 17) 9 := (by unfold Cl; decide +kernel : ∀ x : Nat, x < 92 → kd x = 8 → Cl (rf x 17) 9) x h.1 h.2
set_option maxRecDepth 100000 in
theorem kf_8_18 {x : Nat} (h : Cl x 8) : Cl (rf x 18) 9 := (by unfold Cl; decide +kernel : ∀ x : Nat, x < 92 → kd x = 8 → Cl (rf x 18) 9) x h.1 h.2
set_option maxRecDepth 100000 in
theorem kf_8_19 {x : Nat} (h : Cl x 8) : Cl (rf x 19) 9 := (by unfold Cl; decide +kernel : ∀ x : Nat, x < 92 → kd x = 8 → Cl (rf x 19) 9) x h.1 h.2
set_option maxRecDepth 100000 in
theorem ke_10 {x : Nat} {i : Int32} (h : Cl x 10) (hi : vp_in i (ln x)) : Cl (rf x i.toNatClampNeg) 1 := (by unfold Cl; decide +kernel : ∀ x : Nat, x < 92 → kd x = 10 → ∀ j : Nat, j < ln x → Cl (rf x j) 1) x h.1 h.2 _ (by
  unfold vp_in at hi
  omega)
set_option maxRecDepth 100000 in
theorem ke_11 {x : Nat} {i : Int32} (h : Cl x 11) (hi : vp_in i (ln x)) : Cl (rf x i.toNatClampNeg) 3 := (by unfold Cl; decide +kernel : ∀ x : Nat, x < 92 → kd x = 11 → ∀ j : Nat, j < ln x → Cl (rf x j) 3) x h.1 h.2 _ (by
  unfold vp_in at hi
  omega)
def BoolOK (x : Int32) : Prop := x = 0 ∨ x = 1
theorem nar_bool {x : Int32} (h : BoolOK x) : narrow .boolean (.int x) = .int x := by rcases h with rfl | rfl <;> rfl
theorem fit_bool {x : Int32} (h : BoolOK x) : fits .boolean (.int x) = true := by rcases h with rfl | rfl <;> rfl
set_option maxRecDepth 100000 in
def wp_X1_copyFrom (x0 : Nat) (x1 : Nat) (M : Mem) (K : Mem → Prop) : Prop := (∀ Mg_1 : Mem, Mg_1 = (up (up (up M x0 0 (M x1 0)) x0 1 ((up M x0 0 (M x1 0)) x1 1)) x0 2 ((up (up M x0 0 (M x1 0)) x0 1 ((up M x0 0 (M x1 0)) x1 1)) x1 2)) → (∀ Mg_2 : Mem, Mg_2 = (up (up (up Mg_1 x0 3 (Mg_1 x1 3)) x0 4 ((up Mg_1 x0 3 (Mg_1 x1 3)) x1 4)) x0 5 ((up (up Mg_1 x0 3 (Mg_1 x1 3)) x0 4 ((up Mg_1 x0 3 (Mg_1 x1 3)) x1 4)) x1 5)) → BoolOK (Mg_2 x1 6) ∧ (K (up Mg_2 x0 6 (Mg_2 x1 6)))))
set_option maxRecDepth 100000 in
def wp_X0_copyFrom_l2 (K : Mem → Prop) (x0 : Nat) (x1 : Nat) (B2 : Int32 → Mem → Prop) (i2 : Int32) (Mb : Mem) : Prop := ((Mb x1 3) ≤ i2 → (∀ Mg_202 : Mem, Mg_202 = (up (up (up Mb x0 3 (Mb x1 3)) x0 4 ((up Mb x0 3 (Mb x1 3)) x1 4)) x0 5 ((up (up Mb x0 3 (Mb x1 3)) x0 4 ((up Mb x0 3 (Mb x1 3)) x1 4)) x1 5)) → (∀ Mg_203 : Mem, Mg_203 = (up (up (up Mg_202 x0 6 (Mg_202 x1 6)) x0 7 ((up Mg_202 x0 6 (Mg_202 x1 6)) x1 7)) x0 8 ((up (up Mg_202 x0 6 (Mg_202 x1 6)) x0 7 ((up Mg_202 x0 6 (Mg_202 x1 6)) x1 7)) x1 8)) → K Mg_203))) ∧ (¬ (Mb x1 3) ≤ i2 → vp_in i2 (ln (rf x0 2)) ∧ (vp_in i2 (ln (rf x1 2)) ∧ (wp_X1_copyFrom (rf (rf x0 2) i2.toNatClampNeg) (rf (rf x1 2) i2.toNatClampNeg) Mb (fun M210 => B2 (i2 + 1) M210))))
set_option maxRecDepth 100000 in
def wp_X0_copyFrom_L2 (K : Mem → Prop) (x0 : Nat) (x1 : Nat) : Nat → Int32 → Mem → Prop
  | 0 => fun _ _ => False
  | n + 1 => wp_X0_copyFrom_l2 K x0 x1 (wp_X0_copyFrom_L2 K x0 x1 n)
set_option maxRecDepth 100000 in
def wp_X0_copyFrom (x0 : Nat) (x1 : Nat) (M : Mem) (K : Mem → Prop) : Prop := ∃ n, wp_X0_copyFrom_L2 K x0 x1 n 0 M
set_option maxRecDepth 100000 in
def wp_X0_setGrinder (x0 : Nat) (i1 : Int32) (i2 : Int32) (M : Mem) (K : Int32 → Mem → Prop) : Prop := (i1 = 0 → K (M x0 4) (up M x0 4 i2)) ∧ (¬ i1 = 0 → (i1 = 1 → K (M x0 5) (up M x0 5 i2)) ∧ (¬ i1 = 1 → (i1 = 2 → K (M x0 7) (up M x0 7 i2)) ∧ (¬ i1 = 2 → K (M x0 8) (up M x0 8 i2))))
set_option maxRecDepth 100000 in
def wp_X1_dulls (x0 : Nat) (M : Mem) (K : Int32 → Mem → Prop) : Prop := ((M x0 0) = 1 → K 4 M) ∧ (¬ (M x0 0) = 1 → ((M x0 0) = 2 → K 6 M) ∧ (¬ (M x0 0) = 2 → ((M x0 0) = 3 → K 1 M) ∧ (¬ (M x0 0) = 3 → ((M x0 0) = 4 → K 4 M) ∧ (¬ (M x0 0) = 4 → ((M x0 0) = 5 → K 6 M) ∧ (¬ (M x0 0) = 5 → ((M x0 0) = 6 → K 1 M) ∧ (¬ (M x0 0) = 6 → K 3 M))))))
set_option maxRecDepth 100000 in
def wp_X4_joined (i0 : Int32) (i1 : Int32) (i2 : Int32) (M : Mem) (K : Int32 → Mem → Prop) : Prop := (i0 = 37 → (¬ i2 = 0 → ¬ i2 = 0 ∧ (K (i1 - i1 / i2 * i2) M)) ∧ (i2 = 0 → K 0 M)) ∧ (¬ i0 = 37 → (i0 = 38 → (i1 = 0 → K 0 M) ∧ (¬ i1 = 0 → (i2 = 0 → K 0 M) ∧ (¬ i2 = 0 → K 1 M))) ∧ (¬ i0 = 38 → (i0 = 42 → K (i1 * i2) M) ∧ (¬ i0 = 42 → (i0 = 43 → K (i1 + i2) M) ∧ (¬ i0 = 43 → (i0 = 45 → K (i1 - i2) M) ∧ (¬ i0 = 45 → (i0 = 47 → (¬ i2 = 0 → ¬ i2 = 0 ∧ (K (i1 / i2) M)) ∧ (i2 = 0 → K 0 M)) ∧ (¬ i0 = 47 → (i0 = 60 → (i2 ≤ i1 → K 0 M) ∧ (¬ i2 ≤ i1 → K 1 M)) ∧ (¬ i0 = 60 → (i0 = 61 → (¬ i1 = i2 → K 0 M) ∧ (i1 = i2 → K 1 M)) ∧ (¬ i0 = 61 → (i0 = 62 → (i1 ≤ i2 → K 0 M) ∧ (¬ i1 ≤ i2 → K 1 M)) ∧ (¬ i0 = 62 → (i0 = 124 → (¬ i1 = 0 → K 1 M) ∧ (i1 = 0 → (i2 = 0 → K 0 M) ∧ (¬ i2 = 0 → K 1 M))) ∧ (¬ i0 = 124 → (¬ i1 = 0 → K 0 M) ∧ (i1 = 0 → K 1 M)))))))))))
set_option maxRecDepth 100000 in
def wp_X4_workedOut_l3 (K : Int32 → Mem → Prop) (x0 : Nat) (i1 : Int32) (i2 : Int32) (i3 : Int32) (B3 : Int32 → Mem → Prop) (i4 : Int32) (Mb : Mem) : Prop := ((Mb x0 5) ≤ i4 → vp_in ((Mb x0 5) - 1) (ln (rf x0 3)) ∧ (K (Mb (rf x0 3) ((Mb x0 5) - 1).toNatClampNeg) Mb)) ∧ (¬ (Mb x0 5) ≤ i4 → vp_in i4 (ln (rf x0 1)) ∧ (vp_in i4 (ln (rf x0 0)) ∧ ((¬ (Mb (rf x0 0) i4.toNatClampNeg) = 48 → vp_in i4 (ln (rf x0 0)) ∧ ((¬ (Mb (rf x0 0) i4.toNatClampNeg) = 110 → vp_in i4 (ln (rf x0 0)) ∧ (vp_in (Mb (rf x0 1) i4.toNatClampNeg) (ln (rf x0 3)) ∧ (vp_in i4 (ln (rf x0 2)) ∧ (vp_in (Mb (rf x0 2) i4.toNatClampNeg) (ln (rf x0 3)) ∧ (wp_X4_joined (Mb (rf x0 0) i4.toNatClampNeg) (Mb (rf x0 3) (Mb (rf x0 1) i4.toNatClampNeg).toNatClampNeg) (Mb (rf x0 3) (Mb (rf x0 2) i4.toNatClampNeg).toNatClampNeg) Mb (fun r317 M317 => vp_in i4 (ln (rf x0 3)) ∧ (B3 (i4 + 1) (up M317 (rf x0 3) i4.toNatClampNeg r317)))))))) ∧ ((Mb (rf x0 0) i4.toNatClampNeg) = 110 → (¬ (Mb (rf x0 1) i4.toNatClampNeg) = 0 → (¬ (Mb (rf x0 1) i4.toNatClampNeg) = 1 → vp_in i4 (ln (rf x0 3)) ∧ (B3 (i4 + 1) (up Mb (rf x0 3) i4.toNatClampNeg i3))) ∧ ((Mb (rf x0 1) i4.toNatClampNeg) = 1 → vp_in i4 (ln (rf x0 3)) ∧ (B3 (i4 + 1) (up Mb (rf x0 3) i4.toNatClampNeg i2)))) ∧ ((Mb (rf x0 1) i4.toNatClampNeg) = 0 → vp_in i4 (ln (rf x0 3)) ∧ (B3 (i4 + 1) (up Mb (rf x0 3) i4.toNatClampNeg i1)))))) ∧ ((Mb (rf x0 0) i4.toNatClampNeg) = 48 → vp_in i4 (ln (rf x0 3)) ∧ (B3 (i4 + 1) (up Mb (rf x0 3) i4.toNatClampNeg (Mb (rf x0 1) i4.toNatClampNeg)))))))
set_option maxRecDepth 100000 in
def wp_X4_workedOut_L3 (K : Int32 → Mem → Prop) (x0 : Nat) (i1 : Int32) (i2 : Int32) (i3 : Int32) : Nat → Int32 → Mem → Prop
  | 0 => fun _ _ => False
  | n + 1 => wp_X4_workedOut_l3 K x0 i1 i2 i3 (wp_X4_workedOut_L3 K x0 i1 i2 i3 n)
set_option maxRecDepth 100000 in
def wp_X4_workedOut (x0 : Nat) (i1 : Int32) (i2 : Int32) (i3 : Int32) (M : Mem) (K : Int32 → Mem → Prop) : Prop := ∃ n, wp_X4_workedOut_L3 K x0 i1 i2 i3 n 0 M
set_option maxRecDepth 100000 in
def wp_X4_gives (x0 : Nat) (i1 : Int32) (i2 : Int32) (i3 : Int32) (M : Mem) (K : Int32 → Mem → Prop) : Prop := ((M x0 5) ≤ 0 → (¬ (M x0 4) = 0 → K (if 0 < (if (9 - (i1 / 11)) < 99 then (9 - (i1 / 11)) else 99) then (if (9 - (i1 / 11)) < 99 then (9 - (i1 / 11)) else 99) else 0) M) ∧ ((M x0 4) = 0 → K (if 0 < (if 20 < 99 then 20 else 99) then (if 20 < 99 then 20 else 99) else 0) M)) ∧ (¬ (M x0 5) ≤ 0 → wp_X4_workedOut x0 i1 i2 i3 M (fun r3 M3 => K (if 0 < (if r3 < 99 then r3 else 99) then (if r3 < 99 then r3 else 99) else 0) M3))
set_option maxRecDepth 100000 in
def wp_X7_isWithin (i0 : Int32) (i1 : Int32) (i2 : Int32) (M : Mem) (K : Int32 → Mem → Prop) : Prop := (i0 < i1 → K 0 M) ∧ (¬ i0 < i1 → (i2 < i0 → K 0 M) ∧ (¬ i2 < i0 → K 1 M))
set_option maxRecDepth 100000 in
def wp_X0_isFree (x0 : Nat) (x1 : Nat) (M : Mem) (K : Int32 → Mem → Prop) : Prop := wp_X7_isWithin (M x1 4) 0 ((M x0 3) - 1) M (fun r1 M1 => (r1 = 0 → K 1 M1) ∧ (¬ r1 = 0 → vp_in (M1 x1 4) (ln (rf x0 2)) ∧ (((M1 (rf (rf x0 2) (M1 x1 4).toNatClampNeg) 6) = 0 → K 0 M1) ∧ (¬ (M1 (rf (rf x0 2) (M1 x1 4).toNatClampNeg) 6) = 0 → K 1 M1))))
set_option maxRecDepth 100000 in
def wp_X1_needs (x0 : Nat) (M : Mem) (K : Int32 → Mem → Prop) : Prop := ((M x0 0) = 1 → K (50 + (2 * (M x0 1))) M) ∧ (¬ (M x0 0) = 1 → ((M x0 0) = 2 → K 30 M) ∧ (¬ (M x0 0) = 2 → ((M x0 0) = 3 → K 80 M) ∧ (¬ (M x0 0) = 3 → ((M x0 0) = 4 → K ((50 + (2 * (M x0 1))) + 5) M) ∧ (¬ (M x0 0) = 4 → ((M x0 0) = 5 → K (30 + (M x0 1)) M) ∧ (¬ (M x0 0) = 5 → ((M x0 0) = 6 → K (80 - (M x0 1)) M) ∧ (¬ (M x0 0) = 6 → K 50 M))))))
set_option maxRecDepth 100000 in
def wp_X0_endOrDull_b54 (K : Mem → Prop) (B2 : Int32 → Mem → Prop) (x0 : Nat) (i1 : Int32) (i2 : Int32) (x3 : Nat) (Mb : Mem) : Prop := (i1 = 0 → wp_X1_dulls x3 Mb (fun r5402 M5402 => (∀ Mg_5403 : Mem, Mg_5403 = (up (up M5402 x3 3 (if 0 < ((Mb x3 3) - r5402) then ((Mb x3 3) - r5402) else 0)) x3 5 (if (((up M5402 x3 3 (if 0 < ((Mb x3 3) - r5402) then ((Mb x3 3) - r5402) else 0)) x3 5) + 1) < 999 then (((up M5402 x3 3 (if 0 < ((Mb x3 3) - r5402) then ((Mb x3 3) - r5402) else 0)) x3 5) + 1) else 999)) → B2 (i2 + 1) Mg_5403))) ∧ (¬ i1 = 0 → wp_X4_gives (rf x0 1) (Mb x3 3) (Mb x3 5) (Mb x3 1) Mb (fun r5405 M5405 => wp_X1_dulls x3 (up M5405 x0 7 (if ((Mb x0 7) + r5405) < 99999 then ((Mb x0 7) + r5405) else 99999)) (fun r5406 M5406 => (∀ Mg_5407 : Mem, Mg_5407 = (up M5406 x3 3 (if 0 < (((up M5405 x0 7 (if ((Mb x0 7) + r5405) < 99999 then ((Mb x0 7) + r5405) else 99999)) x3 3) - r5406) then (((up M5405 x0 7 (if ((Mb x0 7) + r5405) < 99999 then ((Mb x0 7) + r5405) else 99999)) x3 3) - r5406) else 0)) → B2 (i2 + 1) (up Mg_5407 x3 5 (if ((Mg_5407 x3 5) + 1) < 999 then ((Mg_5407 x3 5) + 1) else 999))))))
set_option maxRecDepth 100000 in
def wp_X0_endOrDull_l2 (K : Mem → Prop) (x0 : Nat) (i1 : Int32) (B2 : Int32 → Mem → Prop) (i2 : Int32) (Mb : Mem) : Prop := ((Mb x0 3) ≤ i2 → K Mb) ∧ (¬ (Mb x0 3) ≤ i2 → vp_in i2 (ln (rf x0 2)) ∧ (((Mb (rf (rf x0 2) i2.toNatClampNeg) 6) = 0 → wp_X1_needs (rf (rf x0 2) i2.toNatClampNeg) Mb (fun r206 M206 => ((Mb (rf (rf x0 2) i2.toNatClampNeg) 3) < r206 → wp_X0_endOrDull_b54 K B2 x0 i1 i2 (rf (rf x0 2) i2.toNatClampNeg) M206) ∧ (¬ (Mb (rf (rf x0 2) i2.toNatClampNeg) 3) < r206 → wp_X0_isFree x0 (rf (rf x0 2) i2.toNatClampNeg) M206 (fun r208 M208 => (r208 = 0 → wp_X0_endOrDull_b54 K B2 x0 i1 i2 (rf (rf x0 2) i2.toNatClampNeg) M208) ∧ (¬ r208 = 0 → B2 (i2 + 1) (up M208 (rf (rf x0 2) i2.toNatClampNeg) 6 1)))))) ∧ (¬ (Mb (rf (rf x0 2) i2.toNatClampNeg) 6) = 0 → B2 (i2 + 1) Mb)))
set_option maxRecDepth 100000 in
def wp_X0_endOrDull_L2 (K : Mem → Prop) (x0 : Nat) (i1 : Int32) : Nat → Int32 → Mem → Prop
  | 0 => fun _ _ => False
  | n + 1 => wp_X0_endOrDull_l2 K x0 i1 (wp_X0_endOrDull_L2 K x0 i1 n)
set_option maxRecDepth 100000 in
def wp_X0_endOrDull (x0 : Nat) (i1 : Int32) (M : Mem) (K : Mem → Prop) : Prop := ∃ n, wp_X0_endOrDull_L2 K x0 i1 n 0 M
set_option maxRecDepth 100000 in
def wp_X0_restDay (x0 : Nat) (i1 : Int32) (M : Mem) (K : Mem → Prop) : Prop := wp_X0_endOrDull x0 i1 M (fun M1 => (∀ Mg_2 : Mem, Mg_2 = (up (up M1 x0 4 (((M1 x0 4) + (M1 x0 5)) - ((M1 x0 4) + (M1 x0 5)) / 10 * 10)) x0 6 (((up M1 x0 4 (((M1 x0 4) + (M1 x0 5)) - ((M1 x0 4) + (M1 x0 5)) / 10 * 10)) x0 6) + 1)) → K Mg_2))
set_option maxRecDepth 100000 in
def wp_X1_gains (x0 : Nat) (i1 : Int32) (i2 : Int32) (M : Mem) (K : Int32 → Mem → Prop) : Prop := ((M x0 0) = 1 → K (i1 + (M x0 1)) M) ∧ (¬ (M x0 0) = 1 → ((M x0 0) = 2 → K (2 * i1) M) ∧ (¬ (M x0 0) = 2 → ((M x0 0) = 3 → K (i1 / 2) M) ∧ (¬ (M x0 0) = 3 → ((M x0 0) = 4 → K (if 0 < ((i1 + (M x0 1)) - ((M x0 5) / 10)) then ((i1 + (M x0 1)) - ((M x0 5) / 10)) else 0) M) ∧ (¬ (M x0 0) = 4 → ((M x0 0) = 5 → (¬ (i2 - i2 / 6 * 6) = 0 → K (2 * i1) M) ∧ ((i2 - i2 / 6 * 6) = 0 → K 0 M)) ∧ (¬ (M x0 0) = 5 → ((M x0 0) = 6 → K 0 M) ∧ (¬ (M x0 0) = 6 → K i1 M))))))
set_option maxRecDepth 100000 in
def wp_X0_gainsOf (x0 : Nat) (x1 : Nat) (M : Mem) (K : Int32 → Mem → Prop) : Prop := wp_X4_gives (rf x0 0) (M x1 3) (M x1 5) ((M x0 6) - (M x0 6) / 7 * 7) M (fun r2 M2 => wp_X1_gains x1 r2 (M2 x0 6) M2 (fun r3 M3 => K r3 M3))
set_option maxRecDepth 100000 in
def wp_X0_grindArea_l2 (K : Mem → Prop) (x0 : Nat) (B2 : Int32 → Mem → Prop) (i1 : Int32) (Mb : Mem) : Prop := ((Mb x0 3) ≤ i1 → K Mb) ∧ (¬ (Mb x0 3) ≤ i1 → vp_in i1 (ln (rf x0 2)) ∧ ((¬ (Mb (rf (rf x0 2) i1.toNatClampNeg) 2) = (Mb x0 4) → B2 (i1 + 1) Mb) ∧ ((Mb (rf (rf x0 2) i1.toNatClampNeg) 2) = (Mb x0 4) → (¬ (Mb (rf (rf x0 2) i1.toNatClampNeg) 6) = 0 → B2 (i1 + 1) Mb) ∧ ((Mb (rf (rf x0 2) i1.toNatClampNeg) 6) = 0 → wp_X0_gainsOf x0 (rf (rf x0 2) i1.toNatClampNeg) Mb (fun r207 M207 => (∀ Mg_208 : Mem, Mg_208 = (up M207 (rf (rf x0 2) i1.toNatClampNeg) 3 (if ((Mb (rf (rf x0 2) i1.toNatClampNeg) 3) + r207) < 99 then ((Mb (rf (rf x0 2) i1.toNatClampNeg) 3) + r207) else 99)) → B2 (i1 + 1) (up Mg_208 x0 8 (if ((Mg_208 x0 8) + 3) < 99999 then ((Mg_208 x0 8) + 3) else 99999))))))))
set_option maxRecDepth 100000 in
def wp_X0_grindArea_L2 (K : Mem → Prop) (x0 : Nat) : Nat → Int32 → Mem → Prop
  | 0 => fun _ _ => False
  | n + 1 => wp_X0_grindArea_l2 K x0 (wp_X0_grindArea_L2 K x0 n)
set_option maxRecDepth 100000 in
def wp_X0_grindArea (x0 : Nat) (M : Mem) (K : Mem → Prop) : Prop := ∃ n, wp_X0_grindArea_L2 K x0 n 0 M
set_option maxRecDepth 100000 in
def wp_X0_passDay (x0 : Nat) (i1 : Int32) (M : Mem) (K : Mem → Prop) : Prop := wp_X0_grindArea x0 M (fun M1 => wp_X0_restDay x0 i1 M1 (fun M2 => K M2))
set_option maxRecDepth 100000 in
def wp_X0_sharpen_l2 (K : Mem → Prop) (x0 : Nat) (i1 : Int32) (B2 : Int32 → Mem → Prop) (i2 : Int32) (Mb : Mem) : Prop := ((Mb x0 3) ≤ i2 → K Mb) ∧ (¬ (Mb x0 3) ≤ i2 → (((i1 >>> (i2 &&& 31)) &&& 1) = 0 → B2 (i2 + 1) Mb) ∧ (¬ ((i1 >>> (i2 &&& 31)) &&& 1) = 0 → vp_in i2 (ln (rf x0 2)) ∧ (B2 (i2 + 1) (up Mb (rf (rf x0 2) i2.toNatClampNeg) 3 99))))
set_option maxRecDepth 100000 in
def wp_X0_sharpen_L2 (K : Mem → Prop) (x0 : Nat) (i1 : Int32) : Nat → Int32 → Mem → Prop
  | 0 => fun _ _ => False
  | n + 1 => wp_X0_sharpen_l2 K x0 i1 (wp_X0_sharpen_L2 K x0 i1 n)
set_option maxRecDepth 100000 in
def wp_X0_sharpen (x0 : Nat) (i1 : Int32) (M : Mem) (K : Mem → Prop) : Prop := ∃ n, wp_X0_sharpen_L2 K x0 i1 n 0 M
set_option maxRecDepth 100000 in
def wp_X0_hasEdges_l2 (K : Int32 → Mem → Prop) (x0 : Nat) (x1 : Nat) (B2 : Int32 → Mem → Prop) (i2 : Int32) (Mb : Mem) : Prop := ((Mb x0 3) ≤ i2 → K 1 Mb) ∧ (¬ (Mb x0 3) ≤ i2 → ((Mb x1 2) ≤ i2 → K 1 Mb) ∧ (¬ (Mb x1 2) ≤ i2 → vp_in i2 (ln (rf x0 2)) ∧ (vp_in i2 (ln (rf x1 0)) ∧ (((Mb (rf (rf x0 2) i2.toNatClampNeg) 3) = (Mb (rf x1 0) i2.toNatClampNeg) → B2 (i2 + 1) Mb) ∧ (¬ (Mb (rf (rf x0 2) i2.toNatClampNeg) 3) = (Mb (rf x1 0) i2.toNatClampNeg) → K 0 Mb)))))
set_option maxRecDepth 100000 in
def wp_X0_hasEdges_L2 (K : Int32 → Mem → Prop) (x0 : Nat) (x1 : Nat) : Nat → Int32 → Mem → Prop
  | 0 => fun _ _ => False
  | n + 1 => wp_X0_hasEdges_l2 K x0 x1 (wp_X0_hasEdges_L2 K x0 x1 n)
set_option maxRecDepth 100000 in
def wp_X0_hasEdges (x0 : Nat) (x1 : Nat) (M : Mem) (K : Int32 → Mem → Prop) : Prop := ∃ n, wp_X0_hasEdges_L2 K x0 x1 n 0 M
set_option maxRecDepth 100000 in
def wp_X0_edgesTogether_l4 (K : Int32 → Mem → Prop) (x0 : Nat) (B4 : Int32 → Int32 → Mem → Prop) (i1 : Int32) (i2 : Int32) (Mb : Mem) : Prop := ((Mb x0 3) ≤ i2 → K i1 Mb) ∧ (¬ (Mb x0 3) ≤ i2 → vp_in i2 (ln (rf x0 2)) ∧ (B4 (i1 + (Mb (rf (rf x0 2) i2.toNatClampNeg) 3)) (i2 + 1) Mb))
set_option maxRecDepth 100000 in
def wp_X0_edgesTogether_L4 (K : Int32 → Mem → Prop) (x0 : Nat) : Nat → Int32 → Int32 → Mem → Prop
  | 0 => fun _ _ _ => False
  | n + 1 => wp_X0_edgesTogether_l4 K x0 (wp_X0_edgesTogether_L4 K x0 n)
set_option maxRecDepth 100000 in
def wp_X0_edgesTogether (x0 : Nat) (M : Mem) (K : Int32 → Mem → Prop) : Prop := ∃ n, wp_X0_edgesTogether_L4 K x0 n 0 0 M
set_option maxRecDepth 100000 in
def wp_J6_bitCount_0f7a4 (i0 : Int32) (M : Mem) (K : Int32 → Mem → Prop) : Prop := (∀ g_1 : Int32, g_1 = (i0 - (((i0.toUInt32 >>> ((1 : Int32).toUInt32 &&& Int32.toUInt32 31)).toInt32) &&& 1431655765)) → (∀ g_2 : Int32, g_2 = ((g_1 &&& 858993459) + (((g_1.toUInt32 >>> ((2 : Int32).toUInt32 &&& Int32.toUInt32 31)).toInt32) &&& 858993459)) → (∀ g_3 : Int32, g_3 = ((g_2 + ((g_2.toUInt32 >>> ((4 : Int32).toUInt32 &&& Int32.toUInt32 31)).toInt32)) &&& 252645135) → (∀ g_4 : Int32, g_4 = (g_3 + ((g_3.toUInt32 >>> ((8 : Int32).toUInt32 &&& Int32.toUInt32 31)).toInt32)) → (∀ g_5 : Int32, g_5 = (g_4 + ((g_4.toUInt32 >>> ((16 : Int32).toUInt32 &&& Int32.toUInt32 31)).toInt32)) → K (g_5 &&& 63) M)))))
set_option maxRecDepth 100000 in
def wp_X0_setEnded_l4 (K : Int32 → Mem → Prop) (x0 : Nat) (B4 : Int32 → Int32 → Mem → Prop) (i1 : Int32) (i2 : Int32) (Mb : Mem) : Prop := ((Mb x0 3) ≤ i2 → K i1 Mb) ∧ (¬ (Mb x0 3) ≤ i2 → vp_in i2 (ln (rf x0 2)) ∧ (((Mb (rf (rf x0 2) i2.toNatClampNeg) 6) = 0 → B4 (i1 ||| 0) (i2 + 1) Mb) ∧ (¬ (Mb (rf (rf x0 2) i2.toNatClampNeg) 6) = 0 → B4 (i1 ||| ((1 : Int32) <<< (i2 &&& 31))) (i2 + 1) Mb)))
set_option maxRecDepth 100000 in
def wp_X0_setEnded_L4 (K : Int32 → Mem → Prop) (x0 : Nat) : Nat → Int32 → Int32 → Mem → Prop
  | 0 => fun _ _ _ => False
  | n + 1 => wp_X0_setEnded_l4 K x0 (wp_X0_setEnded_L4 K x0 n)
set_option maxRecDepth 100000 in
def wp_X0_setEnded (x0 : Nat) (M : Mem) (K : Int32 → Mem → Prop) : Prop := ∃ n, wp_X0_setEnded_L4 K x0 n 0 0 M
set_option maxRecDepth 100000 in
def wp_X0_endedMany (x0 : Nat) (M : Mem) (K : Int32 → Mem → Prop) : Prop := wp_X0_setEnded x0 M (fun r1 M1 => wp_J6_bitCount_0f7a4 r1 M1 (fun r2 M2 => K r2 M2))
set_option maxRecDepth 100000 in
def wp_X0_setInArea_l4 (K : Int32 → Mem → Prop) (x0 : Nat) (i1 : Int32) (B4 : Int32 → Int32 → Mem → Prop) (i2 : Int32) (i3 : Int32) (Mb : Mem) : Prop := ((Mb x0 3) ≤ i3 → K i2 Mb) ∧ (¬ (Mb x0 3) ≤ i3 → vp_in i3 (ln (rf x0 2)) ∧ ((¬ (Mb (rf (rf x0 2) i3.toNatClampNeg) 2) = i1 → B4 (i2 ||| 0) (i3 + 1) Mb) ∧ ((Mb (rf (rf x0 2) i3.toNatClampNeg) 2) = i1 → B4 (i2 ||| ((1 : Int32) <<< (i3 &&& 31))) (i3 + 1) Mb)))
set_option maxRecDepth 100000 in
def wp_X0_setInArea_L4 (K : Int32 → Mem → Prop) (x0 : Nat) (i1 : Int32) : Nat → Int32 → Int32 → Mem → Prop
  | 0 => fun _ _ _ => False
  | n + 1 => wp_X0_setInArea_l4 K x0 i1 (wp_X0_setInArea_L4 K x0 i1 n)
set_option maxRecDepth 100000 in
def wp_X0_setInArea (x0 : Nat) (i1 : Int32) (M : Mem) (K : Int32 → Mem → Prop) : Prop := ∃ n, wp_X0_setInArea_L4 K x0 i1 n 0 0 M
set_option maxRecDepth 100000 in
def wp_X0_setFree_l4 (K : Int32 → Mem → Prop) (x0 : Nat) (B4 : Int32 → Int32 → Mem → Prop) (i1 : Int32) (i2 : Int32) (Mb : Mem) : Prop := ((Mb x0 3) ≤ i2 → K i1 Mb) ∧ (¬ (Mb x0 3) ≤ i2 → vp_in i2 (ln (rf x0 2)) ∧ ((¬ (Mb (rf (rf x0 2) i2.toNatClampNeg) 6) = 0 → B4 (i1 ||| 0) (i2 + 1) Mb) ∧ ((Mb (rf (rf x0 2) i2.toNatClampNeg) 6) = 0 → vp_in i2 (ln (rf x0 2)) ∧ (wp_X0_isFree x0 (rf (rf x0 2) i2.toNatClampNeg) Mb (fun r408 M408 => (r408 = 0 → B4 (i1 ||| 0) (i2 + 1) M408) ∧ (¬ r408 = 0 → B4 (i1 ||| ((1 : Int32) <<< (i2 &&& 31))) (i2 + 1) M408))))))
set_option maxRecDepth 100000 in
def wp_X0_setFree_L4 (K : Int32 → Mem → Prop) (x0 : Nat) : Nat → Int32 → Int32 → Mem → Prop
  | 0 => fun _ _ _ => False
  | n + 1 => wp_X0_setFree_l4 K x0 (wp_X0_setFree_L4 K x0 n)
set_option maxRecDepth 100000 in
def wp_X0_setFree (x0 : Nat) (M : Mem) (K : Int32 → Mem → Prop) : Prop := ∃ n, wp_X0_setFree_L4 K x0 n 0 0 M
set_option maxRecDepth 100000 in
def wp_X0_setHangingOn_l6 (K : Int32 → Mem → Prop) (x0 : Nat) (i1 : Int32) (B6 : Int32 → Int32 → Mem → Prop) (i2 : Int32) (i3 : Int32) (Mb : Mem) : Prop := ((Mb x0 3) ≤ i3 → K i2 Mb) ∧ (¬ (Mb x0 3) ≤ i3 → vp_in i3 (ln (rf x0 2)) ∧ (((Mb (rf (rf x0 2) i3.toNatClampNeg) 4) = i1 → B6 (i2 ||| ((1 : Int32) <<< (i3 &&& 31))) (i3 + 1) Mb) ∧ (¬ (Mb (rf (rf x0 2) i3.toNatClampNeg) 4) = i1 → ((Mb (rf (rf x0 2) i3.toNatClampNeg) 4) < 0 → B6 i2 (i3 + 1) Mb) ∧ (¬ (Mb (rf (rf x0 2) i3.toNatClampNeg) 4) < 0 → (((i2 >>> ((Mb (rf (rf x0 2) i3.toNatClampNeg) 4) &&& 31)) &&& 1) = 0 → B6 i2 (i3 + 1) Mb) ∧ (¬ ((i2 >>> ((Mb (rf (rf x0 2) i3.toNatClampNeg) 4) &&& 31)) &&& 1) = 0 → B6 (i2 ||| ((1 : Int32) <<< (i3 &&& 31))) (i3 + 1) Mb)))))
set_option maxRecDepth 100000 in
def wp_X0_setHangingOn_L6 (K : Int32 → Mem → Prop) (x0 : Nat) (i1 : Int32) : Nat → Int32 → Int32 → Mem → Prop
  | 0 => fun _ _ _ => False
  | n + 1 => wp_X0_setHangingOn_l6 K x0 i1 (wp_X0_setHangingOn_L6 K x0 i1 n)
set_option maxRecDepth 100000 in
def wp_X0_setHangingOn (x0 : Nat) (i1 : Int32) (M : Mem) (K : Int32 → Mem → Prop) : Prop := ∃ n, wp_X0_setHangingOn_L6 K x0 i1 n 0 (i1 + 1) M
set_option maxRecDepth 100000 in
def wp_X0_setItHangsOn_l6 (K : Int32 → Mem → Prop) (x0 : Nat) (B6 : Int32 → Int32 → Mem → Prop) (i2 : Int32) (i3 : Int32) (Mb : Mem) : Prop := (i3 ≤ 0 → K i2 Mb) ∧ (¬ i3 ≤ 0 → (((i2 >>> (i3 &&& 31)) &&& 1) = 0 → B6 i2 (i3 + Int32.ofInt (-1)) Mb) ∧ (¬ ((i2 >>> (i3 &&& 31)) &&& 1) = 0 → vp_in i3 (ln (rf x0 2)) ∧ (((Mb (rf (rf x0 2) i3.toNatClampNeg) 4) < 0 → B6 i2 (i3 + Int32.ofInt (-1)) Mb) ∧ (¬ (Mb (rf (rf x0 2) i3.toNatClampNeg) 4) < 0 → vp_in i3 (ln (rf x0 2)) ∧ ((∀ g_609 : Int32, g_609 = (i2 ||| ((1 : Int32) <<< ((Mb (rf (rf x0 2) i3.toNatClampNeg) 4) &&& 31))) → B6 g_609 (i3 + Int32.ofInt (-1)) Mb))))))
set_option maxRecDepth 100000 in
def wp_X0_setItHangsOn_L6 (K : Int32 → Mem → Prop) (x0 : Nat) : Nat → Int32 → Int32 → Mem → Prop
  | 0 => fun _ _ _ => False
  | n + 1 => wp_X0_setItHangsOn_l6 K x0 (wp_X0_setItHangsOn_L6 K x0 n)
set_option maxRecDepth 100000 in
def wp_X0_setItHangsOn (x0 : Nat) (i1 : Int32) (M : Mem) (K : Int32 → Mem → Prop) : Prop := ∃ n, wp_X0_setItHangsOn_L6 K x0 n ((1 : Int32) <<< (i1 &&& 31)) i1 M
set_option maxRecDepth 100000 in
def wp_X1_turnInto (x0 : Nat) (i1 : Int32) (M : Mem) (K : Mem → Prop) : Prop := K (up (up M x0 0 (i1 / 10)) x0 1 (i1 - i1 / 10 * 10))
set_option maxRecDepth 100000 in
def wp_X1_changeTo (x0 : Nat) (i1 : Int32) (i2 : Int32) (M : Mem) (K : Int32 → Mem → Prop) : Prop := (i1 = 0 → K (M x0 2) (up M x0 2 i2)) ∧ (¬ i1 = 0 → (i1 = 1 → K (M x0 3) (up M x0 3 i2)) ∧ (¬ i1 = 1 → (i1 = 2 → ((M x0 6) = 0 → (¬ i2 = 1 → K 0 (up M x0 6 0)) ∧ (i2 = 1 → K 0 (up M x0 6 1))) ∧ (¬ (M x0 6) = 0 → (¬ i2 = 1 → K 1 (up M x0 6 0)) ∧ (i2 = 1 → K 1 (up M x0 6 1)))) ∧ (¬ i1 = 2 → K (M x0 5) (up M x0 5 i2))))
set_option maxRecDepth 100000 in
def wp_X1_isOfKind (x0 : Nat) (i1 : Int32) (M : Mem) (K : Int32 → Mem → Prop) : Prop := (i1 = (M x0 0) → K 1 M) ∧ (¬ i1 = (M x0 0) → vp_in (M x0 0) 7 ∧ ((i1 = (KAf (M x0 0).toNatClampNeg) → K 1 M) ∧ (¬ i1 = (KAf (M x0 0).toNatClampNeg) → (¬ i1 = 0 → K 0 M) ∧ (i1 = 0 → K 1 M))))
set_option maxRecDepth 100000 in
def wp_X4_add (x0 : Nat) (i1 : Int32) (i2 : Int32) (i3 : Int32) (M : Mem) (K : Int32 → Mem → Prop) : Prop := (50 ≤ (M x0 5) → K ((M x0 5) - 1) M) ∧ (¬ 50 ≤ (M x0 5) → vp_in (M x0 5) (ln (rf x0 0)) ∧ (vp_in ((up M (rf x0 0) (M x0 5).toNatClampNeg i1) x0 5) (ln (rf x0 1)) ∧ (vp_in ((up (up M (rf x0 0) (M x0 5).toNatClampNeg i1) (rf x0 1) ((up M (rf x0 0) (M x0 5).toNatClampNeg i1) x0 5).toNatClampNeg i2) x0 5) (ln (rf x0 2)) ∧ ((∀ Mg_8 : Mem, Mg_8 = (up (up (up M (rf x0 0) (M x0 5).toNatClampNeg i1) (rf x0 1) ((up M (rf x0 0) (M x0 5).toNatClampNeg i1) x0 5).toNatClampNeg i2) (rf x0 2) ((up (up M (rf x0 0) (M x0 5).toNatClampNeg i1) (rf x0 1) ((up M (rf x0 0) (M x0 5).toNatClampNeg i1) x0 5).toNatClampNeg i2) x0 5).toNatClampNeg i3) → K (((up Mg_8 x0 5 ((Mg_8 x0 5) + 1)) x0 5) - 1) (up Mg_8 x0 5 ((Mg_8 x0 5) + 1)))))))
set_option maxRecDepth 100000 in
def wp_X2_next (M : Mem) (K : Int32 → Mem → Prop) : Prop := ((M 60 2) ≤ (M 60 3) → K (-1) M) ∧ (¬ (M 60 2) ≤ (M 60 3) → vp_in (M 60 3) 50 ∧ (K (M 66 (M 60 3).toNatClampNeg) M))
set_option maxRecDepth 100000 in
def wp_X2_levelOf (i0 : Int32) (M : Mem) (K : Int32 → Mem → Prop) : Prop := (i0 = 37 → K 4 M) ∧ (¬ i0 = 37 → (i0 = 38 → K 1 M) ∧ (¬ i0 = 38 → (i0 = 42 → K 4 M) ∧ (¬ i0 = 42 → (i0 = 43 → K 3 M) ∧ (¬ i0 = 43 → (i0 = 45 → K 3 M) ∧ (¬ i0 = 45 → (i0 = 47 → K 4 M) ∧ (¬ i0 = 47 → (i0 = 60 → K 2 M) ∧ (¬ i0 = 60 → (i0 = 61 → K 2 M) ∧ (¬ i0 = 61 → (i0 = 62 → K 2 M) ∧ (¬ i0 = 62 → (i0 = 124 → K 0 M) ∧ (¬ i0 = 124 → K (-1) M))))))))))
set_option maxRecDepth 100000 in
def wp_X2_stop (M : Mem) (K : Int32 → Mem → Prop) : Prop := (0 ≤ (M 60 4) → K 0 M) ∧ (¬ 0 ≤ (M 60 4) → K 0 (up M 60 4 (M 60 3)))
set_option maxRecDepth 100000 in
def wp_X2_nameOf (i1 : Int32) (M : Mem) (K : Int32 → Mem → Prop) : Prop := (¬ i1 = 101 → (¬ i1 = 97 → (¬ (M 61 4) = 0 → (¬ i1 = 109 → K (-1) M) ∧ (i1 = 109 → K 2 M)) ∧ ((M 61 4) = 0 → (¬ i1 = 100 → K (-1) M) ∧ (i1 = 100 → K 2 M))) ∧ (i1 = 97 → K 1 M)) ∧ (i1 = 101 → K 0 M)
set_option maxRecDepth 100000 in
def wp_X2_isDigit (i0 : Int32) (M : Mem) (K : Int32 → Mem → Prop) : Prop := wp_X7_isWithin i0 48 57 M (fun r1 M1 => (r1 = 0 ∨ r1 = 1) ∧ (K r1 M1))
set_option maxRecDepth 100000 in
def wp_X2_readNumber_l4 (K : Int32 → Mem → Prop) (B4 : Int32 → Int32 → Mem → Prop) (i1 : Int32) (i2 : Int32) (Mb : Mem) : Prop := (4 ≤ i2 → wp_X4_add 61 48 i1 0 Mb (fun r402 M402 => K r402 M402)) ∧ (¬ 4 ≤ i2 → wp_X2_next  Mb (fun r403 M403 => wp_X2_isDigit r403 M403 (fun r404 M404 => (r404 = 0 → wp_X4_add 61 48 i1 0 M404 (fun r406 M406 => K r406 M406)) ∧ (¬ r404 = 0 → wp_X2_next  M404 (fun r407 M407 => B4 (((10 * i1) + r407) - 48) (i2 + 1) (up M407 60 3 ((M407 60 3) + 1)))))))
set_option maxRecDepth 100000 in
def wp_X2_readNumber_L4 (K : Int32 → Mem → Prop) : Nat → Int32 → Int32 → Mem → Prop
  | 0 => fun _ _ _ => False
  | n + 1 => wp_X2_readNumber_l4 K (wp_X2_readNumber_L4 K n)
set_option maxRecDepth 100000 in
def wp_X2_readNumber (M : Mem) (K : Int32 → Mem → Prop) : Prop := ∃ n, wp_X2_readNumber_L4 K  n 0 0 M
set_option maxRecDepth 100000 in
def wp_X2_readLevel_l36 (R0 : Int32 → Int32 → Mem → (Int32 → Mem → Prop) → Prop) (R1 : Int32 → Mem → (Int32 → Mem → Prop) → Prop) (R2 : Int32 → Mem → (Int32 → Mem → Prop) → Prop) (R3 : Int32 → Mem → (Int32 → Mem → Prop) → Prop) (K : Int32 → Mem → Prop) (i1 : Int32) (i2 : Int32) (i4 : Int32) (B36 : Int32 → Int32 → Mem → Prop) (i3 : Int32) (i5 : Int32) (Mb : Mem) : Prop := (i4 ≤ i5 → K i3 Mb) ∧ (¬ i4 ≤ i5 → (0 ≤ (Mb 60 4) → K i3 Mb) ∧ (¬ 0 ≤ (Mb 60 4) → wp_X2_next  Mb (fun r3603 M3603 => wp_X2_levelOf r3603 M3603 (fun r3604 M3604 => (¬ r3604 = i1 → K i3 M3604) ∧ (r3604 = i1 → wp_X2_next  M3604 (fun r3606 M3606 => R0 (i1 + 1) i2 (up M3606 60 3 ((M3606 60 3) + 1)) (fun r3607 M3607 => wp_X4_add 61 r3606 i3 r3607 M3607 (fun r3608 M3608 => B36 r3608 (i5 + 1) M3608))))))))
set_option maxRecDepth 100000 in
def wp_X2_readLevel_L36 (R0 : Int32 → Int32 → Mem → (Int32 → Mem → Prop) → Prop) (R1 : Int32 → Mem → (Int32 → Mem → Prop) → Prop) (R2 : Int32 → Mem → (Int32 → Mem → Prop) → Prop) (R3 : Int32 → Mem → (Int32 → Mem → Prop) → Prop) (K : Int32 → Mem → Prop) (i1 : Int32) (i2 : Int32) (i4 : Int32) : Nat → Int32 → Int32 → Mem → Prop
  | 0 => fun _ _ _ => False
  | n + 1 => wp_X2_readLevel_l36 R0 R1 R2 R3 K i1 i2 i4 (wp_X2_readLevel_L36 R0 R1 R2 R3 K i1 i2 i4 n)
set_option maxRecDepth 100000 in
def wpb_X2_readLevel (R0 : Int32 → Int32 → Mem → (Int32 → Mem → Prop) → Prop) (R1 : Int32 → Mem → (Int32 → Mem → Prop) → Prop) (R2 : Int32 → Mem → (Int32 → Mem → Prop) → Prop) (R3 : Int32 → Mem → (Int32 → Mem → Prop) → Prop) (i1 : Int32) (i2 : Int32) (M : Mem) (K : Int32 → Mem → Prop) : Prop := (i1 < 5 → R0 (i1 + 1) i2 M (fun r2 M2 => (¬ i1 = 2 → ∃ n, wp_X2_readLevel_L36 R0 R1 R2 R3 K i1 i2 50 n r2 0 M2) ∧ (i1 = 2 → ∃ n, wp_X2_readLevel_L36 R0 R1 R2 R3 K i1 i2 1 n r2 0 M2))) ∧ (¬ i1 < 5 → R1 i2 M (fun r4 M4 => K r4 M4))
set_option maxRecDepth 100000 in
def wp_X2_readInnermost_b63 (R0 : Int32 → Int32 → Mem → (Int32 → Mem → Prop) → Prop) (R1 : Int32 → Mem → (Int32 → Mem → Prop) → Prop) (R2 : Int32 → Mem → (Int32 → Mem → Prop) → Prop) (R3 : Int32 → Mem → (Int32 → Mem → Prop) → Prop) (K : Int32 → Mem → Prop) (i1 : Int32) (i2 : Int32) (Mb : Mem) : Prop := (5 ≤ i1 → wp_X2_stop  Mb (fun r6302 M6302 => K r6302 M6302)) ∧ (¬ 5 ≤ i1 → (¬ i2 = 33 → R3 (i1 + 1) (up Mb 60 3 ((Mb 60 3) + 1)) (fun r6304 M6304 => K r6304 M6304)) ∧ (i2 = 33 → R2 (i1 + 1) (up Mb 60 3 ((Mb 60 3) + 1)) (fun r6305 M6305 => K r6305 M6305)))
set_option maxRecDepth 100000 in
def wpb_X2_readInnermost (R0 : Int32 → Int32 → Mem → (Int32 → Mem → Prop) → Prop) (R1 : Int32 → Mem → (Int32 → Mem → Prop) → Prop) (R2 : Int32 → Mem → (Int32 → Mem → Prop) → Prop) (R3 : Int32 → Mem → (Int32 → Mem → Prop) → Prop) (i1 : Int32) (M : Mem) (K : Int32 → Mem → Prop) : Prop := wp_X2_next  M (fun r1 M1 => wp_X2_isDigit r1 M1 (fun r2 M2 => (r2 = 0 → wp_X2_nameOf r1 M2 (fun r4 M4 => (r4 < 0 → (r1 = 33 → wp_X2_readInnermost_b63 R0 R1 R2 R3 K i1 r1 M4) ∧ (¬ r1 = 33 → (¬ r1 = 40 → wp_X2_stop  M4 (fun r8 M8 => K r8 M8)) ∧ (r1 = 40 → wp_X2_readInnermost_b63 R0 R1 R2 R3 K i1 r1 M4))) ∧ (¬ r4 < 0 → wp_X2_nameOf r1 (up M4 60 3 ((M4 60 3) + 1)) (fun r9 M9 => wp_X4_add 61 110 r9 0 M9 (fun r10 M10 => K r10 M10))))) ∧ (¬ r2 = 0 → wp_X2_readNumber  M2 (fun r11 M11 => K r11 M11))))
set_option maxRecDepth 100000 in
def wpb_X2_readNot (R0 : Int32 → Int32 → Mem → (Int32 → Mem → Prop) → Prop) (R1 : Int32 → Mem → (Int32 → Mem → Prop) → Prop) (R2 : Int32 → Mem → (Int32 → Mem → Prop) → Prop) (R3 : Int32 → Mem → (Int32 → Mem → Prop) → Prop) (i1 : Int32) (M : Mem) (K : Int32 → Mem → Prop) : Prop := R1 i1 M (fun r1 M1 => wp_X4_add 61 33 r1 r1 M1 (fun r2 M2 => K r2 M2))
set_option maxRecDepth 100000 in
def wpb_X2_readBrackets (R0 : Int32 → Int32 → Mem → (Int32 → Mem → Prop) → Prop) (R1 : Int32 → Mem → (Int32 → Mem → Prop) → Prop) (R2 : Int32 → Mem → (Int32 → Mem → Prop) → Prop) (R3 : Int32 → Mem → (Int32 → Mem → Prop) → Prop) (i1 : Int32) (M : Mem) (K : Int32 → Mem → Prop) : Prop := R0 0 i1 M (fun r1 M1 => (0 ≤ (M1 60 4) → wp_X2_stop  M1 (fun r3 M3 => K r3 M3)) ∧ (¬ 0 ≤ (M1 60 4) → wp_X2_next  M1 (fun r4 M4 => (r4 = 41 → K r1 (up M4 60 3 ((M4 60 3) + 1))) ∧ (¬ r4 = 41 → wp_X2_stop  M4 (fun r6 M6 => K r6 M6)))))
def wpG_X2_readLevel : Nat → (Int32 → Int32 → Mem → (Int32 → Mem → Prop) → Prop) × (Int32 → Mem → (Int32 → Mem → Prop) → Prop) × (Int32 → Mem → (Int32 → Mem → Prop) → Prop) × (Int32 → Mem → (Int32 → Mem → Prop) → Prop)
  | 0 => (fun _ _ _ _ => False, fun _ _ _ => False, fun _ _ _ => False, fun _ _ _ => False)
  | n + 1 => (wpb_X2_readLevel (wpG_X2_readLevel n).1 (wpG_X2_readLevel n).2.1 (wpG_X2_readLevel n).2.2.1 (wpG_X2_readLevel n).2.2.2, wpb_X2_readInnermost (wpG_X2_readLevel n).1 (wpG_X2_readLevel n).2.1 (wpG_X2_readLevel n).2.2.1 (wpG_X2_readLevel n).2.2.2, wpb_X2_readNot (wpG_X2_readLevel n).1 (wpG_X2_readLevel n).2.1 (wpG_X2_readLevel n).2.2.1 (wpG_X2_readLevel n).2.2.2, wpb_X2_readBrackets (wpG_X2_readLevel n).1 (wpG_X2_readLevel n).2.1 (wpG_X2_readLevel n).2.2.1 (wpG_X2_readLevel n).2.2.2)
abbrev wp_X2_readLevel (n : Nat) : Int32 → Int32 → Mem → (Int32 → Mem → Prop) → Prop := (wpG_X2_readLevel n).1
abbrev wp_X2_readInnermost (n : Nat) : Int32 → Mem → (Int32 → Mem → Prop) → Prop := (wpG_X2_readLevel n).2.1
abbrev wp_X2_readNot (n : Nat) : Int32 → Mem → (Int32 → Mem → Prop) → Prop := (wpG_X2_readLevel n).2.2.1
abbrev wp_X2_readBrackets (n : Nat) : Int32 → Mem → (Int32 → Mem → Prop) → Prop := (wpG_X2_readLevel n).2.2.2
set_option maxRecDepth 100000 in
def wp_X4_clear (x0 : Nat) (i1 : Int32) (M : Mem) (K : Mem → Prop) : Prop := K (up (up M x0 4 i1) x0 5 0)
set_option maxRecDepth 100000 in
def wp_X2_read (x1 : Nat) (i2 : Int32) (i3 : Int32) (M : Mem) (K : Int32 → Mem → Prop) : Prop := ¬ (0 : Int32) < 0 ∧ (¬ (0 : Int32) < 0 ∧ (¬ ((up M 60 2 (if 50 < i2 then 50 else i2)) 60 2) < 0 ∧ ((0 : Int32).toNatClampNeg + ((up M 60 2 (if 50 < i2 then 50 else i2)) 60 2).toNatClampNeg ≤ ln x1 ∧ ((0 : Int32).toNatClampNeg + ((up M 60 2 (if 50 < i2 then 50 else i2)) 60 2).toNatClampNeg ≤ 50 ∧ ((∀ Mg_6 : Mem, Mg_6 = (upA (up M 60 2 (if 50 < i2 then 50 else i2)) 66 (va_cpy ((up M 60 2 (if 50 < i2 then 50 else i2)) x1) ((up M 60 2 (if 50 < i2 then 50 else i2)) 66) (0 : Int32).toNatClampNeg (0 : Int32).toNatClampNeg ((up M 60 2 (if 50 < i2 then 50 else i2)) 60 2).toNatClampNeg)) → wp_X4_clear 61 i3 (up (up Mg_6 60 3 0) 60 4 (-1)) (fun M7 => wp_X2_readLevel 64 0 0 M7 (fun r8 M8 => (0 ≤ (M8 60 4) → K (M8 60 4) M8) ∧ (¬ 0 ≤ (M8 60 4) → ((M8 60 2) ≤ (M8 60 3) → K (M8 60 4) M8) ∧ (¬ (M8 60 2) ≤ (M8 60 3) → K ((up M8 60 4 (M8 60 3)) 60 4) (up M8 60 4 (M8 60 3))))))))))))
set_option maxRecDepth 100000 in
def wp_X3_isMissing (x0 : Nat) (M : Mem) (K : Int32 → Mem → Prop) : Prop := (¬ (M x0 1) = 0 → K 0 M) ∧ ((M x0 1) = 0 → K 1 M)
set_option maxRecDepth 100000 in
def wp_X3_lay_l12 (K : Mem → Prop) (x0 : Nat) (B12 : Int32 → Mem → Prop) (i3 : Int32) (Mb : Mem) : Prop := (40 ≤ i3 → K Mb) ∧ (¬ 40 ≤ i3 → vp_in i3 (ln (rf x0 0)) ∧ (B12 (i3 + 1) (up Mb (rf x0 0) i3.toNatClampNeg 0)))
set_option maxRecDepth 100000 in
def wp_X3_lay_L12 (K : Mem → Prop) (x0 : Nat) : Nat → Int32 → Mem → Prop
  | 0 => fun _ _ => False
  | n + 1 => wp_X3_lay_l12 K x0 (wp_X3_lay_L12 K x0 n)
set_option maxRecDepth 100000 in
def wp_X3_lay (x0 : Nat) (i1 : Int32) (i2 : Int32) (M : Mem) (K : Mem → Prop) : Prop := ∃ n, wp_X3_lay_L12 K x0 n 0 (up (up M x0 1 i1) x0 2 i2)
set_option maxRecDepth 100000 in
def wp_X3_write (x0 : Nat) (i1 : Int32) (i2 : Int32) (M : Mem) (K : Mem → Prop) : Prop := (¬ (M x0 1) = 8 → (¬ (M x0 1) = 16 → vp_in i1 (ln (rf x0 0)) ∧ (K (up M (rf x0 0) i1.toNatClampNeg i2))) ∧ ((M x0 1) = 16 → vp_in i1 (ln (rf x0 0)) ∧ (K (up M (rf x0 0) i1.toNatClampNeg (i2.toInt16.toInt32))))) ∧ ((M x0 1) = 8 → vp_in i1 (ln (rf x0 0)) ∧ (K (up M (rf x0 0) i1.toNatClampNeg (i2.toInt8.toInt32))))
set_option maxRecDepth 100000 in
def wp_X3_hasNumbers (x0 : Nat) (i1 : Int32) (i2 : Int32) (M : Mem) (K : Int32 → Mem → Prop) : Prop := (i1 < 0 → K 0 M) ∧ (¬ i1 < 0 → (i2 < 0 → K 0 M) ∧ (¬ i2 < 0 → (((M x0 2) - i1) < i2 → K 0 M) ∧ (¬ ((M x0 2) - i1) < i2 → K 1 M)))
set_option maxRecDepth 100000 in
def wp_X4_copyFrom (x0 : Nat) (x1 : Nat) (M : Mem) (K : Mem → Prop) : Prop := ¬ (0 : Int32) < 0 ∧ (¬ (0 : Int32) < 0 ∧ (¬ (M x1 5) < 0 ∧ ((0 : Int32).toNatClampNeg + (M x1 5).toNatClampNeg ≤ ln (rf x1 0) ∧ ((0 : Int32).toNatClampNeg + (M x1 5).toNatClampNeg ≤ ln (rf x0 0) ∧ ((∀ Mg_8 : Mem, Mg_8 = (upA M (rf x0 0) (va_cpy (M (rf x1 0)) (M (rf x0 0)) (0 : Int32).toNatClampNeg (0 : Int32).toNatClampNeg (M x1 5).toNatClampNeg)) → ¬ (0 : Int32) < 0 ∧ (¬ (0 : Int32) < 0 ∧ (¬ (Mg_8 x1 5) < 0 ∧ ((0 : Int32).toNatClampNeg + (Mg_8 x1 5).toNatClampNeg ≤ ln (rf x1 1) ∧ ((0 : Int32).toNatClampNeg + (Mg_8 x1 5).toNatClampNeg ≤ ln (rf x0 1) ∧ ((∀ Mg_16 : Mem, Mg_16 = (upA Mg_8 (rf x0 1) (va_cpy (Mg_8 (rf x1 1)) (Mg_8 (rf x0 1)) (0 : Int32).toNatClampNeg (0 : Int32).toNatClampNeg (Mg_8 x1 5).toNatClampNeg)) → ¬ (0 : Int32) < 0 ∧ (¬ (0 : Int32) < 0 ∧ (¬ (Mg_16 x1 5) < 0 ∧ ((0 : Int32).toNatClampNeg + (Mg_16 x1 5).toNatClampNeg ≤ ln (rf x1 2) ∧ ((0 : Int32).toNatClampNeg + (Mg_16 x1 5).toNatClampNeg ≤ ln (rf x0 2) ∧ ((∀ Mg_24 : Mem, Mg_24 = (upA Mg_16 (rf x0 2) (va_cpy (Mg_16 (rf x1 2)) (Mg_16 (rf x0 2)) (0 : Int32).toNatClampNeg (0 : Int32).toNatClampNeg (Mg_16 x1 5).toNatClampNeg)) → K (up (up Mg_24 x0 4 (Mg_24 x1 4)) x0 5 ((up Mg_24 x0 4 (Mg_24 x1 4)) x1 5))))))))))))))))))))
set_option maxRecDepth 100000 in
def wp_X5_beginWith (i1 : Int32) (i2 : Int32) (i3 : Int32) (M : Mem) (K : Mem → Prop) : Prop := K (up (up (up (up M 67 1 0) 67 2 i1) 67 3 i2) 67 4 i3)
set_option maxRecDepth 100000 in
def wp_X5_begin (i1 : Int32) (M : Mem) (K : Mem → Prop) : Prop := (40 ≤ (M 67 1) → K M) ∧ (¬ 40 ≤ (M 67 1) → vp_in (M 67 1) 40 ∧ (K (up (up M 68 (M 67 1).toNatClampNeg i1) 67 1 (((up M 68 (M 67 1).toNatClampNeg i1) 67 1) + 1))))
set_option maxRecDepth 100000 in
def wpb_X5_sayGrinds (R0 : Int32 → Int32 → Mem → (Int32 → Mem → Prop) → Prop) (i1 : Int32) (i2 : Int32) (M : Mem) (K : Int32 → Mem → Prop) : Prop := (i1 = 1 → wp_X5_begin 20 M (fun M2 => R0 0 i2 M2 (fun r3 M3 => K (r3 * 3) M3))) ∧ (¬ i1 = 1 → (i1 = 4 → wp_X5_begin 20 M (fun M5 => R0 0 i2 M5 (fun r6 M6 => K (r6 * 3) M6))) ∧ (¬ i1 = 4 → wp_X5_begin 10 M (fun M7 => K (i2 + (M7 67 3)) M7)))
def wpG_X5_sayGrinds : Nat → (Int32 → Int32 → Mem → (Int32 → Mem → Prop) → Prop)
  | 0 => fun _ _ _ _ => False
  | n + 1 => wpb_X5_sayGrinds (wpG_X5_sayGrinds n)
abbrev wp_X5_sayGrinds (n : Nat) : Int32 → Int32 → Mem → (Int32 → Mem → Prop) → Prop := (wpG_X5_sayGrinds n)
set_option maxRecDepth 100000 in
def wpb_X5_saySparks (R0 : Int32 → Int32 → Mem → (Int32 → Mem → Prop) → Prop) (i1 : Int32) (i2 : Int32) (M : Mem) (K : Int32 → Mem → Prop) : Prop := (i1 = 3 → wp_X5_begin 40 M (fun M2 => R0 0 i2 M2 (fun r3 M3 => K (-r3) M3))) ∧ (¬ i1 = 3 → (i1 = 6 → wp_X5_begin 70 M (fun M5 => R0 3 i2 M5 (fun r6 M6 => K (r6 ^^^ (M6 67 3)) M6))) ∧ (¬ i1 = 6 → wp_X5_begin 12 M (fun M7 => K (i2 - (M7 67 4)) M7)))
def wpG_X5_saySparks : Nat → (Int32 → Int32 → Mem → (Int32 → Mem → Prop) → Prop)
  | 0 => fun _ _ _ _ => False
  | n + 1 => wpb_X5_saySparks (wpG_X5_saySparks n)
abbrev wp_X5_saySparks (n : Nat) : Int32 → Int32 → Mem → (Int32 → Mem → Prop) → Prop := (wpG_X5_saySparks n)
set_option maxRecDepth 100000 in
def wpb_X5_sayCuts (R0 : Int32 → Int32 → Mem → (Int32 → Mem → Prop) → Prop) (i1 : Int32) (i2 : Int32) (M : Mem) (K : Int32 → Mem → Prop) : Prop := (i1 = 2 → wp_X5_begin 30 M (fun M2 => R0 0 i2 M2 (fun r3 M3 => wp_X5_saySparks 8 (M3 67 2) 1 M3 (fun r4 M4 => K (r3 - r4) M4)))) ∧ (¬ i1 = 2 → (i1 = 5 → wp_X5_begin 60 M (fun M6 => R0 2 (i2 + 1) M6 (fun r7 M7 => K r7 M7))) ∧ (¬ i1 = 5 → wp_X5_begin 11 M (fun M8 => wp_X5_sayGrinds 8 (M8 67 2) i2 M8 (fun r9 M9 => K (r9 * 2) M9))))
def wpG_X5_sayCuts : Nat → (Int32 → Int32 → Mem → (Int32 → Mem → Prop) → Prop)
  | 0 => fun _ _ _ _ => False
  | n + 1 => wpb_X5_sayCuts (wpG_X5_sayCuts n)
abbrev wp_X5_sayCuts (n : Nat) : Int32 → Int32 → Mem → (Int32 → Mem → Prop) → Prop := (wpG_X5_sayCuts n)
set_option maxRecDepth 100000 in
def wpb_X5_sayTells (R0 : Int32 → Int32 → Mem → (Int32 → Mem → Prop) → Prop) (i1 : Int32) (i2 : Int32) (M : Mem) (K : Int32 → Mem → Prop) : Prop := (i1 = 4 → wp_X5_begin 50 M (fun M2 => R0 1 i2 M2 (fun r3 M3 => wp_X5_sayGrinds 8 (M3 67 2) 2 M3 (fun r4 M4 => K (r3 - r4) M4)))) ∧ (¬ i1 = 4 → (i1 = 6 → wp_X5_begin 71 M (fun M6 => wp_X5_sayCuts 8 (M6 67 2) i2 M6 (fun r7 M7 => R0 3 i2 M7 (fun r8 M8 => K (r7 - r8) M8)))) ∧ (¬ i1 = 6 → wp_X5_begin 13 M (fun M9 => wp_X5_sayCuts 8 (M9 67 2) i2 M9 (fun r10 M10 => wp_X5_saySparks 8 (M10 67 2) i2 M10 (fun r11 M11 => K (r10 ^^^ r11) M11)))))
def wpG_X5_sayTells : Nat → (Int32 → Int32 → Mem → (Int32 → Mem → Prop) → Prop)
  | 0 => fun _ _ _ _ => False
  | n + 1 => wpb_X5_sayTells (wpG_X5_sayTells n)
abbrev wp_X5_sayTells (n : Nat) : Int32 → Int32 → Mem → (Int32 → Mem → Prop) → Prop := (wpG_X5_sayTells n)
set_option maxRecDepth 100000 in
def wp_X5_say (i1 : Int32) (i2 : Int32) (M : Mem) (K : Int32 → Mem → Prop) : Prop := (i1 = 0 → wp_X5_sayGrinds 8 (M 67 2) i2 M (fun r2 M2 => K r2 M2)) ∧ (¬ i1 = 0 → (i1 = 1 → wp_X5_sayCuts 8 (M 67 2) i2 M (fun r4 M4 => K r4 M4)) ∧ (¬ i1 = 1 → (i1 = 2 → wp_X5_saySparks 8 (M 67 2) i2 M (fun r6 M6 => K r6 M6)) ∧ (¬ i1 = 2 → wp_X5_sayTells 8 (M 67 2) i2 M (fun r7 M7 => K r7 M7))))
set_option maxRecDepth 100000 in
def wp_X6_textOf (x0 : Nat) (i1 : Int32) (M : Mem) (K : Nat → Mem → Prop) : Prop := (¬ i1 = 0 → K (rf x0 1) M) ∧ (i1 = 0 → K (rf x0 0) M)
set_option maxRecDepth 100000 in
def wp_X6_draw (x0 : Nat) (M : Mem) (K : Int32 → Mem → Prop) : Prop := K ((((up M x0 7 (((M x0 7) * 1103515245) + 12345)) x0 7).toUInt32 >>> ((8 : Int32).toUInt32 &&& Int32.toUInt32 31)).toInt32) (up M x0 7 (((M x0 7) * 1103515245) + 12345))
set_option maxRecDepth 100000 in
def wp_X6_copyFrom (x0 : Nat) (x1 : Nat) (M : Mem) (K : Mem → Prop) : Prop := wp_X4_copyFrom (rf x0 0) (rf x1 0) M (fun M3 => wp_X4_copyFrom (rf x0 1) (rf x1 1) M3 (fun M6 => wp_X0_copyFrom (rf x0 2) (rf x1 2) M6 (fun M9 => ¬ (0 : Int32) < 0 ∧ (¬ (0 : Int32) < 0 ∧ (¬ (M9 x1 5) < 0 ∧ ((0 : Int32).toNatClampNeg + (M9 x1 5).toNatClampNeg ≤ ln (rf x1 3) ∧ ((0 : Int32).toNatClampNeg + (M9 x1 5).toNatClampNeg ≤ ln (rf x0 3) ∧ ((∀ Mg_17 : Mem, Mg_17 = (upA M9 (rf x0 3) (va_cpy (M9 (rf x1 3)) (M9 (rf x0 3)) (0 : Int32).toNatClampNeg (0 : Int32).toNatClampNeg (M9 x1 5).toNatClampNeg)) → ¬ (0 : Int32) < 0 ∧ (¬ (0 : Int32) < 0 ∧ (¬ (Mg_17 x1 6) < 0 ∧ ((0 : Int32).toNatClampNeg + (Mg_17 x1 6).toNatClampNeg ≤ ln (rf x1 4) ∧ ((0 : Int32).toNatClampNeg + (Mg_17 x1 6).toNatClampNeg ≤ ln (rf x0 4) ∧ ((∀ Mg_25 : Mem, Mg_25 = (upA Mg_17 (rf x0 4) (va_cpy (Mg_17 (rf x1 4)) (Mg_17 (rf x0 4)) (0 : Int32).toNatClampNeg (0 : Int32).toNatClampNeg (Mg_17 x1 6).toNatClampNeg)) → (∀ Mg_26 : Mem, Mg_26 = (up (up (up Mg_25 x0 5 (Mg_25 x1 5)) x0 6 ((up Mg_25 x0 5 (Mg_25 x1 5)) x1 6)) x0 7 ((up (up Mg_25 x0 5 (Mg_25 x1 5)) x0 6 ((up Mg_25 x0 5 (Mg_25 x1 5)) x1 6)) x1 7)) → K Mg_26))))))))))))))))
set_option maxRecDepth 100000 in
def wp_X7_refuse (i1 : Int32) (M : Mem) (K : Int32 → Mem → Prop) : Prop := vp_in ((-1000000000) - i1) 6 ∧ (vp_in ((-1000000000) - i1) 6 ∧ (K i1 (up M 78 ((-1000000000) - i1).toNatClampNeg ((M 78 ((-1000000000) - i1).toNatClampNeg) + 1))))
set_option maxRecDepth 100000 in
def wp_X7_mostOfGrinder (i0 : Int32) (M : Mem) (K : Int32 → Mem → Prop) : Prop := (i0 = 0 → K 9 M) ∧ (¬ i0 = 0 → (i0 = 1 → K 9 M) ∧ (¬ i0 = 1 → (i0 = 2 → K 99999 M) ∧ (¬ i0 = 2 → K 99999 M)))
set_option maxRecDepth 100000 in
def wp_X7_set (i1 : Int32) (i2 : Int32) (M : Mem) (K : Int32 → Mem → Prop) : Prop := wp_X7_isWithin i1 0 3 M (fun r1 M1 => (r1 = 0 → wp_X7_refuse (-1000000001) M1 (fun r3 M3 => K r3 M3)) ∧ (¬ r1 = 0 → wp_X7_mostOfGrinder i1 M1 (fun r4 M4 => wp_X7_isWithin i2 0 r4 M4 (fun r5 M5 => (¬ r5 = 0 → wp_X0_setGrinder 12 i1 i2 M5 (fun r7 M7 => K r7 M7)) ∧ (r5 = 0 → wp_X7_refuse (-1000000001) M5 (fun r8 M8 => K r8 M8))))))
set_option maxRecDepth 100000 in
def wp_X7_inArea (i1 : Int32) (M : Mem) (K : Int32 → Mem → Prop) : Prop := wp_X7_isWithin i1 0 9 M (fun r1 M1 => (¬ r1 = 0 → wp_X0_setInArea 12 i1 M1 (fun r3 M3 => K r3 M3)) ∧ (r1 = 0 → wp_X7_refuse (-1000000001) M1 (fun r4 M4 => K r4 M4)))
set_option maxRecDepth 100000 in
def wp_X7_isKindAndM (i0 : Int32) (M : Mem) (K : Int32 → Mem → Prop) : Prop := wp_X7_isWithin i0 0 69 M (fun r1 M1 => (r1 = 0 ∨ r1 = 1) ∧ (K r1 M1))
set_option maxRecDepth 100000 in
def wp_X7_quarrel (i1 : Int32) (i2 : Int32) (i3 : Int32) (i4 : Int32) (M : Mem) (K : Int32 → Mem → Prop) : Prop := wp_X7_isKindAndM i1 M (fun r1 M1 => (r1 = 0 → wp_X7_refuse (-1000000001) M1 (fun r3 M3 => K r3 M3)) ∧ (¬ r1 = 0 → wp_X7_isWithin i2 0 9 M1 (fun r4 M4 => (r4 = 0 → wp_X7_refuse (-1000000001) M4 (fun r6 M6 => K r6 M6)) ∧ (¬ r4 = 0 → wp_X7_isWithin i3 0 99 M4 (fun r7 M7 => (r7 = 0 → wp_X7_refuse (-1000000001) M7 (fun r9 M9 => K r9 M9)) ∧ (¬ r7 = 0 → wp_X7_isWithin i4 (-1) ((M7 12 3) - 1) M7 (fun r10 M10 => (¬ r10 = 0 → ((M10 12 3) < 9 → vp_in (M10 12 3) 9 ∧ (wp_X1_turnInto (14 + (M10 12 3).toNatClampNeg) i1 M10 (fun M15 => (∀ Mg_16 : Mem, Mg_16 = (up (up (up (up M15 (14 + (M10 12 3).toNatClampNeg) 2 i2) (14 + (M10 12 3).toNatClampNeg) 3 i3) (14 + (M10 12 3).toNatClampNeg) 4 i4) (14 + (M10 12 3).toNatClampNeg) 6 0) → K (((up (up Mg_16 (14 + (M10 12 3).toNatClampNeg) 5 0) 12 3 (((up Mg_16 (14 + (M10 12 3).toNatClampNeg) 5 0) 12 3) + 1)) 12 3) - 1) (up (up Mg_16 (14 + (M10 12 3).toNatClampNeg) 5 0) 12 3 (((up Mg_16 (14 + (M10 12 3).toNatClampNeg) 5 0) 12 3) + 1)))))) ∧ (¬ (M10 12 3) < 9 → wp_X7_refuse (-1000000004) M10 (fun r17 M17 => K r17 M17))) ∧ (r10 = 0 → wp_X7_refuse (-1000000001) M10 (fun r18 M18 => K r18 M18)))))))))
set_option maxRecDepth 100000 in
def wp_X7_isQuarrel (i1 : Int32) (M : Mem) (K : Int32 → Mem → Prop) : Prop := wp_X7_isWithin i1 0 ((M 12 3) - 1) M (fun r1 M1 => (r1 = 0 ∨ r1 = 1) ∧ (K r1 M1))
set_option maxRecDepth 100000 in
def wp_X7_ofQuarrel (i1 : Int32) (i2 : Int32) (M : Mem) (K : Int32 → Mem → Prop) : Prop := wp_X7_isQuarrel i1 M (fun r1 M1 => (r1 = 0 → wp_X7_refuse (-1000000001) M1 (fun r3 M3 => K r3 M3)) ∧ (¬ r1 = 0 → wp_X7_isWithin i2 0 9 M1 (fun r4 M4 => (¬ r4 = 0 → vp_in i1 9 ∧ ((i2 = 0 → K (M4 (14 + i1.toNatClampNeg) 0) M4) ∧ (¬ i2 = 0 → (i2 = 1 → K (M4 (14 + i1.toNatClampNeg) 1) M4) ∧ (¬ i2 = 1 → (i2 = 2 → K (M4 (14 + i1.toNatClampNeg) 2) M4) ∧ (¬ i2 = 2 → (i2 = 3 → K (M4 (14 + i1.toNatClampNeg) 3) M4) ∧ (¬ i2 = 3 → (i2 = 4 → K (M4 (14 + i1.toNatClampNeg) 4) M4) ∧ (¬ i2 = 4 → (i2 = 5 → ((M4 (14 + i1.toNatClampNeg) 6) = 0 → K 0 M4) ∧ (¬ (M4 (14 + i1.toNatClampNeg) 6) = 0 → K 1 M4)) ∧ (¬ i2 = 5 → (i2 = 6 → K (M4 (14 + i1.toNatClampNeg) 5) M4) ∧ (¬ i2 = 6 → (i2 = 7 → wp_X0_gainsOf 12 (14 + i1.toNatClampNeg) M4 (fun r17 M17 => K r17 M17)) ∧ (¬ i2 = 7 → (i2 = 8 → wp_X1_needs (14 + i1.toNatClampNeg) M4 (fun r19 M19 => K r19 M19)) ∧ (¬ i2 = 8 → wp_X1_dulls (14 + i1.toNatClampNeg) M4 (fun r20 M20 => K r20 M20)))))))))))) ∧ (r4 = 0 → wp_X7_refuse (-1000000001) M4 (fun r21 M21 => K r21 M21)))))
set_option maxRecDepth 100000 in
def wp_X7_mostOfQuarrel (i0 : Int32) (M : Mem) (K : Int32 → Mem → Prop) : Prop := (i0 = 0 → K 9 M) ∧ (¬ i0 = 0 → (i0 = 1 → K 99 M) ∧ (¬ i0 = 1 → (i0 = 2 → K 1 M) ∧ (¬ i0 = 2 → K 999 M)))
set_option maxRecDepth 100000 in
def wp_X7_change (i1 : Int32) (i2 : Int32) (i3 : Int32) (M : Mem) (K : Int32 → Mem → Prop) : Prop := wp_X7_isQuarrel i1 M (fun r1 M1 => (r1 = 0 → wp_X7_refuse (-1000000001) M1 (fun r3 M3 => K r3 M3)) ∧ (¬ r1 = 0 → wp_X7_isWithin i2 0 3 M1 (fun r4 M4 => (r4 = 0 → wp_X7_refuse (-1000000001) M4 (fun r6 M6 => K r6 M6)) ∧ (¬ r4 = 0 → wp_X7_mostOfQuarrel i2 M4 (fun r7 M7 => wp_X7_isWithin i3 0 r7 M7 (fun r8 M8 => (¬ r8 = 0 → vp_in i1 9 ∧ (wp_X1_changeTo (14 + i1.toNatClampNeg) i2 i3 M8 (fun r12 M12 => K r12 M12))) ∧ (r8 = 0 → wp_X7_refuse (-1000000001) M8 (fun r13 M13 => K r13 M13))))))))
set_option maxRecDepth 100000 in
def wp_X7_become (i1 : Int32) (i2 : Int32) (M : Mem) (K : Int32 → Mem → Prop) : Prop := wp_X7_isQuarrel i1 M (fun r1 M1 => (r1 = 0 → wp_X7_refuse (-1000000001) M1 (fun r3 M3 => K r3 M3)) ∧ (¬ r1 = 0 → wp_X7_isKindAndM i2 M1 (fun r4 M4 => (¬ r4 = 0 → vp_in i1 9 ∧ (wp_X1_turnInto (14 + i1.toNatClampNeg) i2 M4 (fun M8 => K (M4 (14 + i1.toNatClampNeg) 0) M8))) ∧ (r4 = 0 → wp_X7_refuse (-1000000001) M4 (fun r9 M9 => K r9 M9)))))
set_option maxRecDepth 100000 in
def wp_X7_as (i1 : Int32) (i2 : Int32) (M : Mem) (K : Int32 → Mem → Prop) : Prop := wp_X7_isQuarrel i1 M (fun r1 M1 => (r1 = 0 → wp_X7_refuse (-1000000001) M1 (fun r3 M3 => K r3 M3)) ∧ (¬ r1 = 0 → wp_X7_isWithin i2 0 6 M1 (fun r4 M4 => (¬ r4 = 0 → vp_in i1 9 ∧ (wp_X1_isOfKind (14 + i1.toNatClampNeg) i2 M4 (fun r8 M8 => (r8 = 0 → wp_X7_refuse (-1000000005) M8 (fun r10 M10 => K r10 M10)) ∧ (¬ r8 = 0 → K (M8 (14 + i1.toNatClampNeg) 1) M8)))) ∧ (r4 = 0 → wp_X7_refuse (-1000000001) M4 (fun r11 M11 => K r11 M11)))))
set_option maxRecDepth 100000 in
def wp_X7_feed_l41 (K : Int32 → Mem → Prop) (w1 : Int64) (i3 : Int32) (B41 : Int32 → Mem → Prop) (i4 : Int32) (Mb : Mem) : Prop := (i3 ≤ i4 → K ((up Mb 1 5 ((Mb 1 5) + i3)) 1 5) (up Mb 1 5 ((Mb 1 5) + i3))) ∧ (¬ i3 ≤ i4 → vp_in ((Mb 1 5) + i4) 50 ∧ ((∀ Mg_4103 : Mem, Mg_4103 = (up Mb 23 ((Mb 1 5) + i4).toNatClampNeg ((((w1.toUInt64 >>> ((8 * i4).toInt64.toUInt64 &&& Int64.toUInt64 63)).toInt64).toInt32) &&& 255)) → B41 (i4 + 1) Mg_4103)))
set_option maxRecDepth 100000 in
def wp_X7_feed_L41 (K : Int32 → Mem → Prop) (w1 : Int64) (i3 : Int32) : Nat → Int32 → Mem → Prop
  | 0 => fun _ _ => False
  | n + 1 => wp_X7_feed_l41 K w1 i3 (wp_X7_feed_L41 K w1 i3 n)
set_option maxRecDepth 100000 in
def wp_X7_feed (w1 : Int64) (i3 : Int32) (M : Mem) (K : Int32 → Mem → Prop) : Prop := wp_X7_isWithin i3 1 8 M (fun r1 M1 => (¬ r1 = 0 → (((M1 1 5) + i3) ≤ 50 → ∃ n, wp_X7_feed_L41 K w1 i3 n 0 M1) ∧ (¬ ((M1 1 5) + i3) ≤ 50 → wp_X7_refuse (-1000000004) M1 (fun r4 M4 => K r4 M4))) ∧ (r1 = 0 → wp_X7_refuse (-1000000001) M1 (fun r5 M5 => K r5 M5)))
set_option maxRecDepth 100000 in
def wp_X7_text (i1 : Int32) (M : Mem) (K : Int32 → Mem → Prop) : Prop := wp_X7_isWithin i1 0 1 M (fun r1 M1 => (¬ r1 = 0 → wp_X2_read 23 (M1 1 5) i1 M1 (fun r3 M3 => (r3 < 0 → wp_X6_textOf 1 i1 (up M3 1 5 0) (fun r5 M5 => Cl r5 4 ∧ (wp_X4_copyFrom r5 61 M5 (fun M7 => K 1 M7)))) ∧ (¬ r3 < 0 → K ((-10) - r3) (up M3 1 5 0)))) ∧ (r1 = 0 → wp_X7_refuse (-1000000001) M1 (fun r8 M8 => K r8 M8)))
set_option maxRecDepth 100000 in
def wp_X7_law (i1 : Int32) (i2 : Int32) (i3 : Int32) (i4 : Int32) (M : Mem) (K : Int32 → Mem → Prop) : Prop := wp_X7_isWithin i1 0 1 M (fun r1 M1 => (¬ r1 = 0 → wp_X6_textOf 1 i1 M1 (fun r3 M3 => Cl r3 4 ∧ (wp_X4_gives r3 i2 i3 i4 M3 (fun r5 M5 => K r5 M5)))) ∧ (r1 = 0 → wp_X7_refuse (-1000000001) M1 (fun r6 M6 => K r6 M6)))
set_option maxRecDepth 100000 in
def wp_X7_days_l44 (K : Int32 → Mem → Prop) (i1 : Int32) (B44 : Int32 → Mem → Prop) (i2 : Int32) (Mb : Mem) : Prop := (i1 ≤ i2 → wp_X0_endedMany 12 Mb (fun r4402 M4402 => K r4402 M4402)) ∧ (¬ i1 ≤ i2 → wp_X0_passDay 12 1 Mb (fun M4403 => B44 (i2 + 1) M4403))
set_option maxRecDepth 100000 in
def wp_X7_days_L44 (K : Int32 → Mem → Prop) (i1 : Int32) : Nat → Int32 → Mem → Prop
  | 0 => fun _ _ => False
  | n + 1 => wp_X7_days_l44 K i1 (wp_X7_days_L44 K i1 n)
set_option maxRecDepth 100000 in
def wp_X7_days (i1 : Int32) (M : Mem) (K : Int32 → Mem → Prop) : Prop := wp_X7_isWithin i1 1 60 M (fun r1 M1 => (¬ r1 = 0 → (((M1 12 6) + i1) ≤ 9999 → ∃ n, wp_X7_days_L44 K i1 n 0 M1) ∧ (¬ ((M1 12 6) + i1) ≤ 9999 → wp_X7_refuse (-1000000003) M1 (fun r4 M4 => K r4 M4))) ∧ (r1 = 0 → wp_X7_refuse (-1000000001) M1 (fun r5 M5 => K r5 M5)))
set_option maxRecDepth 100000 in
def wp_X7_loose_l44 (K : Int32 → Mem → Prop) (i1 : Int32) (B44 : Int32 → Mem → Prop) (i2 : Int32) (Mb : Mem) : Prop := (i1 ≤ i2 → wp_X0_endedMany 12 Mb (fun r4402 M4402 => K r4402 M4402)) ∧ (¬ i1 ≤ i2 → wp_X6_draw 1 Mb (fun r4403 M4403 => wp_X0_passDay 12 1 (up M4403 12 5 (r4403 - r4403 / 10 * 10)) (fun M4404 => B44 (i2 + 1) M4404)))
set_option maxRecDepth 100000 in
def wp_X7_loose_L44 (K : Int32 → Mem → Prop) (i1 : Int32) : Nat → Int32 → Mem → Prop
  | 0 => fun _ _ => False
  | n + 1 => wp_X7_loose_l44 K i1 (wp_X7_loose_L44 K i1 n)
set_option maxRecDepth 100000 in
def wp_X7_loose (i1 : Int32) (M : Mem) (K : Int32 → Mem → Prop) : Prop := wp_X7_isWithin i1 1 40 M (fun r1 M1 => (¬ r1 = 0 → (((M1 12 6) + i1) ≤ 9999 → ∃ n, wp_X7_loose_L44 K i1 n 0 M1) ∧ (¬ ((M1 12 6) + i1) ≤ 9999 → wp_X7_refuse (-1000000003) M1 (fun r4 M4 => K r4 M4))) ∧ (r1 = 0 → wp_X7_refuse (-1000000001) M1 (fun r5 M5 => K r5 M5)))
set_option maxRecDepth 100000 in
def wp_X7_thinkDays_l2 (K : Mem → Prop) (i1 : Int32) (B2 : Int32 → Mem → Prop) (i2 : Int32) (Mb : Mem) : Prop := (i1 ≤ i2 → K Mb) ∧ (¬ i1 ≤ i2 → wp_X0_passDay 49 0 Mb (fun M202 => B2 (i2 + 1) M202))
set_option maxRecDepth 100000 in
def wp_X7_thinkDays_L2 (K : Mem → Prop) (i1 : Int32) : Nat → Int32 → Mem → Prop
  | 0 => fun _ _ => False
  | n + 1 => wp_X7_thinkDays_l2 K i1 (wp_X7_thinkDays_L2 K i1 n)
set_option maxRecDepth 100000 in
def wp_X7_thinkDays (i1 : Int32) (M : Mem) (K : Mem → Prop) : Prop := ∃ n, wp_X7_thinkDays_L2 K i1 n 0 M
set_option maxRecDepth 100000 in
def wp_X7_think (M : Mem) (K : Mem → Prop) : Prop := wp_X0_copyFrom 49 12 M (fun M1 => K M1)
set_option maxRecDepth 100000 in
def wp_X7_then (i1 : Int32) (i2 : Int32) (i3 : Int32) (M : Mem) (K : Int32 → Mem → Prop) : Prop := wp_X7_isWithin i1 0 60 M (fun r1 M1 => (r1 = 0 → wp_X7_refuse (-1000000001) M1 (fun r3 M3 => K r3 M3)) ∧ (¬ r1 = 0 → wp_X7_isQuarrel i2 M1 (fun r4 M4 => (r4 = 0 → wp_X7_refuse (-1000000001) M4 (fun r6 M6 => K r6 M6)) ∧ (¬ r4 = 0 → wp_X7_isWithin i3 0 2 M4 (fun r7 M7 => (¬ r7 = 0 → wp_X7_think  M7 (fun M9 => wp_X7_thinkDays i1 M9 (fun M10 => vp_in i2 9 ∧ ((i3 = 0 → K (M10 (51 + i2.toNatClampNeg) 3) M10) ∧ (¬ i3 = 0 → (i3 = 1 → ((M10 (51 + i2.toNatClampNeg) 6) = 0 → K 0 M10) ∧ (¬ (M10 (51 + i2.toNatClampNeg) 6) = 0 → K 1 M10)) ∧ (¬ i3 = 1 → K (M10 (51 + i2.toNatClampNeg) 5) M10)))))) ∧ (r7 = 0 → wp_X7_refuse (-1000000001) M7 (fun r16 M16 => K r16 M16)))))))
set_option maxRecDepth 100000 in
def wp_X7_when_l21 (K : Int32 → Mem → Prop) (i1 : Int32) (B21 : Int32 → Mem → Prop) (i2 : Int32) (Mb : Mem) : Prop := (60 < i2 → wp_X7_refuse (-1000000002) Mb (fun r2102 M2102 => K r2102 M2102)) ∧ (¬ 60 < i2 → vp_in i1 9 ∧ (((Mb (51 + i1.toNatClampNeg) 6) = 0 → wp_X0_passDay 49 0 Mb (fun M2106 => B21 (i2 + 1) M2106)) ∧ (¬ (Mb (51 + i1.toNatClampNeg) 6) = 0 → K i2 Mb)))
set_option maxRecDepth 100000 in
def wp_X7_when_L21 (K : Int32 → Mem → Prop) (i1 : Int32) : Nat → Int32 → Mem → Prop
  | 0 => fun _ _ => False
  | n + 1 => wp_X7_when_l21 K i1 (wp_X7_when_L21 K i1 n)
set_option maxRecDepth 100000 in
def wp_X7_when (i1 : Int32) (M : Mem) (K : Int32 → Mem → Prop) : Prop := wp_X7_isQuarrel i1 M (fun r1 M1 => (¬ r1 = 0 → wp_X7_think  M1 (fun M3 => ∃ n, wp_X7_when_L21 K i1 n 0 M3)) ∧ (r1 = 0 → wp_X7_refuse (-1000000001) M1 (fun r4 M4 => K r4 M4)))
set_option maxRecDepth 100000 in
def wp_X7_ended (i1 : Int32) (M : Mem) (K : Int32 → Mem → Prop) : Prop := wp_X7_isWithin i1 0 60 M (fun r1 M1 => (¬ r1 = 0 → wp_X7_think  M1 (fun M3 => wp_X7_thinkDays i1 M3 (fun M4 => wp_X0_setEnded 49 M4 (fun r5 M5 => K r5 M5)))) ∧ (r1 = 0 → wp_X7_refuse (-1000000001) M1 (fun r6 M6 => K r6 M6)))
set_option maxRecDepth 100000 in
def wp_X7_start_l34 (K : Int32 → Mem → Prop) (i1 : Int32) (i2 : Int32) (B34 : Int32 → Int32 → Int32 → Mem → Prop) (i3 : Int32) (i4 : Int32) (i5 : Int32) (Mb : Mem) : Prop := (10 ≤ i5 → (¬ i2 = 0 → K i4 Mb) ∧ (i2 = 0 → K i3 Mb)) ∧ (¬ 10 ≤ i5 → wp_X7_think  Mb (fun M3403 => wp_X7_thinkDays i1 (up M3403 49 4 i5) (fun M3404 => wp_X0_endedMany 49 M3404 (fun r3405 M3405 => (r3405 ≤ i4 → B34 i3 i4 (i5 + 1) M3405) ∧ (¬ r3405 ≤ i4 → wp_X0_endedMany 49 M3405 (fun r3407 M3407 => B34 i5 r3407 (i5 + 1) M3407))))))
set_option maxRecDepth 100000 in
def wp_X7_start_L34 (K : Int32 → Mem → Prop) (i1 : Int32) (i2 : Int32) : Nat → Int32 → Int32 → Int32 → Mem → Prop
  | 0 => fun _ _ _ _ => False
  | n + 1 => wp_X7_start_l34 K i1 i2 (wp_X7_start_L34 K i1 i2 n)
set_option maxRecDepth 100000 in
def wp_X7_start (i1 : Int32) (i2 : Int32) (M : Mem) (K : Int32 → Mem → Prop) : Prop := wp_X7_isWithin i1 0 60 M (fun r1 M1 => (r1 = 0 → wp_X7_refuse (-1000000001) M1 (fun r3 M3 => K r3 M3)) ∧ (¬ r1 = 0 → wp_X7_isWithin i2 0 1 M1 (fun r4 M4 => (¬ r4 = 0 → ∃ n, wp_X7_start_L34 K i1 i2 n 0 (-1) 0 M4) ∧ (r4 = 0 → wp_X7_refuse (-1000000001) M4 (fun r6 M6 => K r6 M6)))))
set_option maxRecDepth 100000 in
def wp_X7_pace_l34 (K : Int32 → Mem → Prop) (i1 : Int32) (i2 : Int32) (B34 : Int32 → Int32 → Int32 → Mem → Prop) (i3 : Int32) (i4 : Int32) (i5 : Int32) (Mb : Mem) : Prop := (10 ≤ i5 → (¬ i2 = 0 → K i4 Mb) ∧ (i2 = 0 → K i3 Mb)) ∧ (¬ 10 ≤ i5 → wp_X7_think  Mb (fun M3403 => wp_X7_thinkDays i1 (up M3403 49 5 i5) (fun M3404 => wp_X0_endedMany 49 M3404 (fun r3405 M3405 => (r3405 ≤ i4 → B34 i3 i4 (i5 + 1) M3405) ∧ (¬ r3405 ≤ i4 → wp_X0_endedMany 49 M3405 (fun r3407 M3407 => B34 i5 r3407 (i5 + 1) M3407))))))
set_option maxRecDepth 100000 in
def wp_X7_pace_L34 (K : Int32 → Mem → Prop) (i1 : Int32) (i2 : Int32) : Nat → Int32 → Int32 → Int32 → Mem → Prop
  | 0 => fun _ _ _ _ => False
  | n + 1 => wp_X7_pace_l34 K i1 i2 (wp_X7_pace_L34 K i1 i2 n)
set_option maxRecDepth 100000 in
def wp_X7_pace (i1 : Int32) (i2 : Int32) (M : Mem) (K : Int32 → Mem → Prop) : Prop := wp_X7_isWithin i1 0 60 M (fun r1 M1 => (r1 = 0 → wp_X7_refuse (-1000000001) M1 (fun r3 M3 => K r3 M3)) ∧ (¬ r1 = 0 → wp_X7_isWithin i2 0 1 M1 (fun r4 M4 => (¬ r4 = 0 → ∃ n, wp_X7_pace_L34 K i1 i2 n 0 (-1) 0 M4) ∧ (r4 = 0 → wp_X7_refuse (-1000000001) M4 (fun r6 M6 => K r6 M6)))))
set_option maxRecDepth 100000 in
def wp_X7_endsInThought_l13 (K : Int32 → Mem → Prop) (i2 : Int32) (x3 : Nat) (B13 : Int32 → Mem → Prop) (i4 : Int32) (Mb : Mem) : Prop := (i2 ≤ i4 → ((Mb x3 6) = 0 ∨ (Mb x3 6) = 1) ∧ (K (Mb x3 6) Mb)) ∧ (¬ i2 ≤ i4 → (¬ (Mb x3 6) = 0 → ((Mb x3 6) = 0 ∨ (Mb x3 6) = 1) ∧ (K (Mb x3 6) Mb)) ∧ ((Mb x3 6) = 0 → wp_X0_passDay 49 0 Mb (fun M1305 => B13 (i4 + 1) M1305)))
set_option maxRecDepth 100000 in
def wp_X7_endsInThought_L13 (K : Int32 → Mem → Prop) (i2 : Int32) (x3 : Nat) : Nat → Int32 → Mem → Prop
  | 0 => fun _ _ => False
  | n + 1 => wp_X7_endsInThought_l13 K i2 x3 (wp_X7_endsInThought_L13 K i2 x3 n)
set_option maxRecDepth 100000 in
def wp_X7_endsInThought (i1 : Int32) (i2 : Int32) (M : Mem) (K : Int32 → Mem → Prop) : Prop := vp_in i1 9 ∧ (∃ n, wp_X7_endsInThought_L13 K i2 (51 + i1.toNatClampNeg) n 0 M)
set_option maxRecDepth 100000 in
def wp_X7_hand_b87 (K : Int32 → Mem → Prop) (B56 : Int32 → Int32 → Mem → Prop) (i1 : Int32) (i2 : Int32) (i3 : Int32) (i4 : Int32) (i5 : Int32) (t0 : Int32) (Mb : Mem) : Prop := (¬ (i5 &&& (i3 ^^^ (-1))) = 0 → B56 i4 (i5 + 1) Mb) ∧ ((i5 &&& (i3 ^^^ (-1))) = 0 → (t0 = 0 → B56 i4 (i5 + 1) Mb) ∧ (¬ t0 = 0 → wp_X7_think  Mb (fun M8703 => wp_X0_sharpen 49 i5 M8703 (fun M8704 => wp_X7_endsInThought i1 i2 M8704 (fun r8705 M8705 => (r8705 = 0 → B56 i4 (i5 + 1) M8705) ∧ (¬ r8705 = 0 → B56 i5 (i5 + 1) M8705))))))
set_option maxRecDepth 100000 in
def wp_X7_hand_l56 (K : Int32 → Mem → Prop) (i1 : Int32) (i2 : Int32) (i3 : Int32) (B56 : Int32 → Int32 → Mem → Prop) (i4 : Int32) (i5 : Int32) (Mb : Mem) : Prop := (512 ≤ i5 → (0 ≤ i4 → K i4 Mb) ∧ (¬ 0 ≤ i4 → wp_X7_refuse (-1000000002) Mb (fun r5603 M5603 => K r5603 M5603))) ∧ (¬ 512 ≤ i5 → (i4 < 0 → wp_X7_hand_b87 K B56 i1 i2 i3 i4 i5 1 Mb) ∧ (¬ i4 < 0 → wp_J6_bitCount_0f7a4 i5 Mb (fun r5605 M5605 => wp_J6_bitCount_0f7a4 i4 M5605 (fun r5606 M5606 => (r5606 ≤ r5605 → wp_X7_hand_b87 K B56 i1 i2 i3 i4 i5 0 M5606) ∧ (¬ r5606 ≤ r5605 → wp_X7_hand_b87 K B56 i1 i2 i3 i4 i5 1 M5606)))))
set_option maxRecDepth 100000 in
def wp_X7_hand_L56 (K : Int32 → Mem → Prop) (i1 : Int32) (i2 : Int32) (i3 : Int32) : Nat → Int32 → Int32 → Mem → Prop
  | 0 => fun _ _ _ => False
  | n + 1 => wp_X7_hand_l56 K i1 i2 i3 (wp_X7_hand_L56 K i1 i2 i3 n)
set_option maxRecDepth 100000 in
def wp_X7_hand (i1 : Int32) (i2 : Int32) (M : Mem) (K : Int32 → Mem → Prop) : Prop := wp_X7_isQuarrel i1 M (fun r1 M1 => (r1 = 0 → wp_X7_refuse (-1000000001) M1 (fun r3 M3 => K r3 M3)) ∧ (¬ r1 = 0 → wp_X7_isWithin i2 0 20 M1 (fun r4 M4 => (¬ r4 = 0 → wp_X0_setItHangsOn 12 i1 M4 (fun r6 M6 => wp_X0_setEnded 12 M6 (fun r7 M7 => ∃ n, wp_X7_hand_L56 K i1 i2 (r6 &&& (r7 ^^^ (-1))) n (-1) 0 M7))) ∧ (r4 = 0 → wp_X7_refuse (-1000000001) M4 (fun r8 M8 => K r8 M8)))))
set_option maxRecDepth 100000 in
def wp_X7_thinkDaysWithHarm_l2 (K : Mem → Prop) (i1 : Int32) (B2 : Int32 → Mem → Prop) (i2 : Int32) (Mb : Mem) : Prop := (i1 ≤ i2 → K Mb) ∧ (¬ i1 ≤ i2 → wp_X0_passDay 49 1 Mb (fun M202 => B2 (i2 + 1) M202))
set_option maxRecDepth 100000 in
def wp_X7_thinkDaysWithHarm_L2 (K : Mem → Prop) (i1 : Int32) : Nat → Int32 → Mem → Prop
  | 0 => fun _ _ => False
  | n + 1 => wp_X7_thinkDaysWithHarm_l2 K i1 (wp_X7_thinkDaysWithHarm_L2 K i1 n)
set_option maxRecDepth 100000 in
def wp_X7_thinkDaysWithHarm (i1 : Int32) (M : Mem) (K : Mem → Prop) : Prop := ∃ n, wp_X7_thinkDaysWithHarm_L2 K i1 n 0 M
set_option maxRecDepth 100000 in
def wp_X7_first_l34 (K : Int32 → Mem → Prop) (i1 : Int32) (i2 : Int32) (B34 : Int32 → Int32 → Int32 → Mem → Prop) (i3 : Int32) (i4 : Int32) (i5 : Int32) (Mb : Mem) : Prop := ((Mb 12 3) ≤ i5 → (0 ≤ i3 → (¬ i2 = 0 → K (i4 - (Mb 12 7)) Mb) ∧ (i2 = 0 → K i3 Mb)) ∧ (¬ 0 ≤ i3 → wp_X7_refuse (-1000000002) Mb (fun r3404 M3404 => K r3404 M3404))) ∧ (¬ (Mb 12 3) ≤ i5 → wp_X7_think  Mb (fun M3405 => vp_in i5 9 ∧ (wp_X7_thinkDaysWithHarm i1 (up M3405 (51 + i5.toNatClampNeg) 6 1) (fun M3408 => (i3 < 0 → B34 i5 (M3408 49 7) (i5 + 1) M3408) ∧ (¬ i3 < 0 → (i4 ≤ (M3408 49 7) → B34 i3 i4 (i5 + 1) M3408) ∧ (¬ i4 ≤ (M3408 49 7) → B34 i5 (M3408 49 7) (i5 + 1) M3408))))))
set_option maxRecDepth 100000 in
def wp_X7_first_L34 (K : Int32 → Mem → Prop) (i1 : Int32) (i2 : Int32) : Nat → Int32 → Int32 → Int32 → Mem → Prop
  | 0 => fun _ _ _ _ => False
  | n + 1 => wp_X7_first_l34 K i1 i2 (wp_X7_first_L34 K i1 i2 n)
set_option maxRecDepth 100000 in
def wp_X7_first (i1 : Int32) (i2 : Int32) (M : Mem) (K : Int32 → Mem → Prop) : Prop := wp_X7_isWithin i1 0 60 M (fun r1 M1 => (r1 = 0 → wp_X7_refuse (-1000000001) M1 (fun r3 M3 => K r3 M3)) ∧ (¬ r1 = 0 → wp_X7_isWithin i2 0 1 M1 (fun r4 M4 => (¬ r4 = 0 → ∃ n, wp_X7_first_L34 K i1 i2 n (-1) 0 0 M4) ∧ (r4 = 0 → wp_X7_refuse (-1000000001) M4 (fun r6 M6 => K r6 M6)))))
set_option maxRecDepth 100000 in
def wp_X7_isSheet (i0 : Int32) (M : Mem) (K : Int32 → Mem → Prop) : Prop := wp_X7_isWithin i0 0 3 M (fun r1 M1 => (r1 = 0 ∨ r1 = 1) ∧ (K r1 M1))
set_option maxRecDepth 100000 in
def wp_X7_sparks_l67 (K : Int32 → Mem → Prop) (i2 : Int32) (x3 : Nat) (B67 : Int32 → Int32 → Mem → Prop) (i4 : Int32) (i5 : Int32) (Mb : Mem) : Prop := (10 ≤ i5 → (¬ i2 = 0 → wp_J6_bitCount_0f7a4 i4 Mb (fun r6703 M6703 => K r6703 M6703)) ∧ (i2 = 0 → K i4 Mb)) ∧ (¬ 10 ≤ i5 → wp_X7_think  Mb (fun M6704 => wp_X0_passDay 49 0 (up M6704 49 4 i5) (fun M6705 => wp_X0_hasEdges 49 x3 M6705 (fun r6706 M6706 => (r6706 = 0 → B67 i4 (i5 + 1) M6706) ∧ (¬ r6706 = 0 → B67 (i4 ||| ((1 : Int32) <<< (i5 &&& 31))) (i5 + 1) M6706)))))
set_option maxRecDepth 100000 in
def wp_X7_sparks_L67 (K : Int32 → Mem → Prop) (i2 : Int32) (x3 : Nat) : Nat → Int32 → Int32 → Mem → Prop
  | 0 => fun _ _ _ => False
  | n + 1 => wp_X7_sparks_l67 K i2 x3 (wp_X7_sparks_L67 K i2 x3 n)
set_option maxRecDepth 100000 in
def wp_X7_sparks (i1 : Int32) (i2 : Int32) (M : Mem) (K : Int32 → Mem → Prop) : Prop := wp_X7_isSheet i1 M (fun r1 M1 => (r1 = 0 → wp_X7_refuse (-1000000001) M1 (fun r3 M3 => K r3 M3)) ∧ (¬ r1 = 0 → wp_X7_isWithin i2 0 1 M1 (fun r4 M4 => (¬ r4 = 0 → vp_in i1 4 ∧ (wp_X3_isMissing (70 + 2 * i1.toNatClampNeg) M4 (fun r8 M8 => (¬ r8 = 0 → wp_X7_refuse (-1000000002) M8 (fun r10 M10 => K r10 M10)) ∧ (r8 = 0 → ((M8 (70 + 2 * i1.toNatClampNeg) 2) = (M8 12 3) → ∃ n, wp_X7_sparks_L67 K i2 (70 + 2 * i1.toNatClampNeg) n 0 0 M8) ∧ (¬ (M8 (70 + 2 * i1.toNatClampNeg) 2) = (M8 12 3) → wp_X7_refuse (-1000000002) M8 (fun r12 M12 => K r12 M12)))))) ∧ (r4 = 0 → wp_X7_refuse (-1000000001) M4 (fun r13 M13 => K r13 M13)))))
set_option maxRecDepth 100000 in
def wp_X7_greatestOf_l4 (K : Int32 → Mem → Prop) (i0 : Int32) (B4 : Int32 → Int32 → Mem → Prop) (i1 : Int32) (i2 : Int32) (Mb : Mem) : Prop := (9 ≤ i2 → K i1 Mb) ∧ (¬ 9 ≤ i2 → (((i0 >>> (i2 &&& 31)) &&& 1) = 0 → B4 i1 (i2 + 1) Mb) ∧ (¬ ((i0 >>> (i2 &&& 31)) &&& 1) = 0 → B4 i2 (i2 + 1) Mb))
set_option maxRecDepth 100000 in
def wp_X7_greatestOf_L4 (K : Int32 → Mem → Prop) (i0 : Int32) : Nat → Int32 → Int32 → Mem → Prop
  | 0 => fun _ _ _ => False
  | n + 1 => wp_X7_greatestOf_l4 K i0 (wp_X7_greatestOf_L4 K i0 n)
set_option maxRecDepth 100000 in
def wp_X7_greatestOf (i0 : Int32) (M : Mem) (K : Int32 → Mem → Prop) : Prop := ∃ n, wp_X7_greatestOf_L4 K i0 n (-1) 0 M
set_option maxRecDepth 100000 in
def wp_X7_last_l27 (K : Int32 → Mem → Prop) (i1 : Int32) (B27 : Int32 → Int32 → Int32 → Mem → Prop) (i2 : Int32) (i3 : Int32) (i4 : Int32) (Mb : Mem) : Prop := (60 < i4 → (0 ≤ i2 → (¬ i1 = 0 → K i3 Mb) ∧ (i1 = 0 → K i2 Mb)) ∧ (¬ 0 ≤ i2 → wp_X7_refuse (-1000000002) Mb (fun r2704 M2704 => K r2704 M2704))) ∧ (¬ 60 < i4 → wp_X0_setEnded 49 Mb (fun r2705 M2705 => wp_X0_passDay 49 0 M2705 (fun M2706 => wp_X0_setEnded 49 M2706 (fun r2707 M2707 => ((r2707 &&& (r2705 ^^^ (-1))) = 0 → B27 i2 i3 (i4 + 1) M2707) ∧ (¬ (r2707 &&& (r2705 ^^^ (-1))) = 0 → wp_X7_greatestOf (r2707 &&& (r2705 ^^^ (-1))) M2707 (fun r2709 M2709 => B27 r2709 i4 (i4 + 1) M2709))))))
set_option maxRecDepth 100000 in
def wp_X7_last_L27 (K : Int32 → Mem → Prop) (i1 : Int32) : Nat → Int32 → Int32 → Int32 → Mem → Prop
  | 0 => fun _ _ _ _ => False
  | n + 1 => wp_X7_last_l27 K i1 (wp_X7_last_L27 K i1 n)
set_option maxRecDepth 100000 in
def wp_X7_last (i1 : Int32) (M : Mem) (K : Int32 → Mem → Prop) : Prop := wp_X7_isWithin i1 0 1 M (fun r1 M1 => (¬ r1 = 0 → wp_X7_think  M1 (fun M3 => ∃ n, wp_X7_last_L27 K i1 n (-1) 0 1 M3)) ∧ (r1 = 0 → wp_X7_refuse (-1000000001) M1 (fun r4 M4 => K r4 M4)))
set_option maxRecDepth 100000 in
def wp_X7_sharp_l27 (K : Int32 → Mem → Prop) (i1 : Int32) (i2 : Int32) (B27 : Int32 → Mem → Prop) (i3 : Int32) (Mb : Mem) : Prop := (99 < i3 → wp_X7_refuse (-1000000002) Mb (fun r2702 M2702 => K r2702 M2702)) ∧ (¬ 99 < i3 → wp_X7_think  Mb (fun M2703 => vp_in i1 9 ∧ (wp_X7_endsInThought i1 i2 (up M2703 (51 + i1.toNatClampNeg) 3 i3) (fun r2706 M2706 => (r2706 = 0 → B27 (i3 + 1) M2706) ∧ (¬ r2706 = 0 → K i3 M2706)))))
set_option maxRecDepth 100000 in
def wp_X7_sharp_L27 (K : Int32 → Mem → Prop) (i1 : Int32) (i2 : Int32) : Nat → Int32 → Mem → Prop
  | 0 => fun _ _ => False
  | n + 1 => wp_X7_sharp_l27 K i1 i2 (wp_X7_sharp_L27 K i1 i2 n)
set_option maxRecDepth 100000 in
def wp_X7_sharp (i1 : Int32) (i2 : Int32) (M : Mem) (K : Int32 → Mem → Prop) : Prop := wp_X7_isQuarrel i1 M (fun r1 M1 => (r1 = 0 → wp_X7_refuse (-1000000001) M1 (fun r3 M3 => K r3 M3)) ∧ (¬ r1 = 0 → wp_X7_isWithin i2 1 60 M1 (fun r4 M4 => (¬ r4 = 0 → ∃ n, wp_X7_sharp_L27 K i1 i2 n 0 M4) ∧ (r4 = 0 → wp_X7_refuse (-1000000001) M4 (fun r6 M6 => K r6 M6)))))
set_option maxRecDepth 100000 in
def wp_X7_off (i1 : Int32) (M : Mem) (K : Int32 → Mem → Prop) : Prop := wp_X7_isWithin i1 0 60 M (fun r1 M1 => (¬ r1 = 0 → wp_X7_think  M1 (fun M3 => wp_X7_thinkDaysWithHarm i1 M3 (fun M4 => wp_X7_think  M4 (fun M5 => (i1 ≤ 0 → K ((M5 49 7) - (M4 49 7)) M5) ∧ (¬ i1 ≤ 0 → wp_X0_restDay 49 1 M5 (fun M7 => wp_X7_thinkDaysWithHarm (i1 - 1) M7 (fun M8 => K ((M8 49 7) - (M4 49 7)) M8))))))) ∧ (r1 = 0 → wp_X7_refuse (-1000000001) M1 (fun r9 M9 => K r9 M9)))
set_option maxRecDepth 100000 in
def wp_X7_chain (i1 : Int32) (M : Mem) (K : Int32 → Mem → Prop) : Prop := wp_X7_isQuarrel i1 M (fun r1 M1 => (¬ r1 = 0 → wp_X0_setHangingOn 12 i1 M1 (fun r3 M3 => wp_X0_setEnded 12 M3 (fun r4 M4 => K (r3 &&& (r4 ^^^ (-1))) M4))) ∧ (r1 = 0 → wp_X7_refuse (-1000000001) M1 (fun r5 M5 => K r5 M5)))
set_option maxRecDepth 100000 in
def wp_X7_fee (i1 : Int32) (M : Mem) (K : Int32 → Mem → Prop) : Prop := wp_X7_isWithin i1 0 60 M (fun r1 M1 => (¬ r1 = 0 → wp_X7_think  M1 (fun M3 => wp_X7_thinkDays i1 M3 (fun M4 => K ((M4 49 8) - (M4 12 8)) M4))) ∧ (r1 = 0 → wp_X7_refuse (-1000000001) M1 (fun r5 M5 => K r5 M5)))
set_option maxRecDepth 100000 in
def wp_X7_free (M : Mem) (K : Int32 → Mem → Prop) : Prop := wp_X0_setFree 12 M (fun r1 M1 => K r1 M1)
set_option maxRecDepth 100000 in
def wp_X7_greatestDivisor_l2 (K : Int32 → Mem → Prop) (i0 : Int32) (i1 : Int32) (B2 : Int32 → Mem → Prop) (i2 : Int32) (Mb : Mem) : Prop := (i2 ≤ 1 → K 1 Mb) ∧ (¬ i2 ≤ 1 → ¬ i2 = 0 ∧ ((¬ (i0 - i0 / i2 * i2) = 0 → B2 (i2 + Int32.ofInt (-1)) Mb) ∧ ((i0 - i0 / i2 * i2) = 0 → ¬ i2 = 0 ∧ ((¬ (i1 - i1 / i2 * i2) = 0 → B2 (i2 + Int32.ofInt (-1)) Mb) ∧ ((i1 - i1 / i2 * i2) = 0 → K i2 Mb)))))
set_option maxRecDepth 100000 in
def wp_X7_greatestDivisor_L2 (K : Int32 → Mem → Prop) (i0 : Int32) (i1 : Int32) : Nat → Int32 → Mem → Prop
  | 0 => fun _ _ => False
  | n + 1 => wp_X7_greatestDivisor_l2 K i0 i1 (wp_X7_greatestDivisor_L2 K i0 i1 n)
set_option maxRecDepth 100000 in
def wp_X7_greatestDivisor (i0 : Int32) (i1 : Int32) (M : Mem) (K : Int32 → Mem → Prop) : Prop := ∃ n, wp_X7_greatestDivisor_L2 K i0 i1 n i1 M
set_option maxRecDepth 100000 in
def wp_X7_odds_l40 (K : Int32 → Mem → Prop) (i1 : Int32) (i2 : Int32) (i3 : Int32) (B40 : Int32 → Int32 → Mem → Prop) (i4 : Int32) (i5 : Int32) (Mb : Mem) : Prop := (10 ≤ i5 → wp_X7_greatestDivisor i4 10 Mb (fun r4002 M4002 => (¬ i3 = 0 → ¬ r4002 = 0 ∧ (K (10 / r4002) M4002)) ∧ (i3 = 0 → ¬ r4002 = 0 ∧ (K (i4 / r4002) M4002)))) ∧ (¬ 10 ≤ i5 → wp_X7_think  Mb (fun M4006 => wp_X7_endsInThought i1 i2 (up M4006 49 4 i5) (fun r4007 M4007 => (r4007 = 0 → B40 i4 (i5 + 1) M4007) ∧ (¬ r4007 = 0 → B40 (i4 + 1) (i5 + 1) M4007))))
set_option maxRecDepth 100000 in
def wp_X7_odds_L40 (K : Int32 → Mem → Prop) (i1 : Int32) (i2 : Int32) (i3 : Int32) : Nat → Int32 → Int32 → Mem → Prop
  | 0 => fun _ _ _ => False
  | n + 1 => wp_X7_odds_l40 K i1 i2 i3 (wp_X7_odds_L40 K i1 i2 i3 n)
set_option maxRecDepth 100000 in
def wp_X7_odds (i1 : Int32) (i2 : Int32) (i3 : Int32) (M : Mem) (K : Int32 → Mem → Prop) : Prop := wp_X7_isQuarrel i1 M (fun r1 M1 => (r1 = 0 → wp_X7_refuse (-1000000001) M1 (fun r3 M3 => K r3 M3)) ∧ (¬ r1 = 0 → wp_X7_isWithin i2 0 60 M1 (fun r4 M4 => (r4 = 0 → wp_X7_refuse (-1000000001) M4 (fun r6 M6 => K r6 M6)) ∧ (¬ r4 = 0 → wp_X7_isWithin i3 0 1 M4 (fun r7 M7 => (¬ r7 = 0 → ∃ n, wp_X7_odds_L40 K i1 i2 i3 n 0 0 M7) ∧ (r7 = 0 → wp_X7_refuse (-1000000001) M7 (fun r9 M9 => K r9 M9)))))))
set_option maxRecDepth 100000 in
def wp_X7_seed (i1 : Int32) (M : Mem) (K : Int32 → Mem → Prop) : Prop := K (M 1 7) (up M 1 7 i1)
set_option maxRecDepth 100000 in
def wp_X7_voice (i1 : Int32) (i2 : Int32) (i3 : Int32) (M : Mem) (K : Int32 → Mem → Prop) : Prop := wp_X7_isQuarrel i1 M (fun r1 M1 => (r1 = 0 → wp_X7_refuse (-1000000001) M1 (fun r3 M3 => K r3 M3)) ∧ (¬ r1 = 0 → wp_X7_isWithin i2 0 3 M1 (fun r4 M4 => (¬ r4 = 0 → vp_in i1 9 ∧ (wp_X5_beginWith (M4 (14 + i1.toNatClampNeg) 0) i1 (M4 (14 + i1.toNatClampNeg) 1) M4 (fun M8 => wp_X5_say i2 i3 M8 (fun r9 M9 => K r9 M9)))) ∧ (r4 = 0 → wp_X7_refuse (-1000000001) M4 (fun r10 M10 => K r10 M10)))))
set_option maxRecDepth 100000 in
def wp_X7_trace (i1 : Int32) (M : Mem) (K : Int32 → Mem → Prop) : Prop := wp_X7_isWithin i1 0 ((M 67 1) - 1) M (fun r1 M1 => (r1 = 0 → wp_X7_refuse (-1000000002) M1 (fun r3 M3 => K r3 M3)) ∧ (¬ r1 = 0 → vp_in i1 40 ∧ (K (M1 68 i1.toNatClampNeg) M1)))
set_option maxRecDepth 100000 in
def wp_X7_sheet_b51 (K : Int32 → Mem → Prop) (i1 : Int32) (i2 : Int32) (i3 : Int32) (Mb : Mem) : Prop := (i2 = 0 → vp_in i1 4 ∧ ((¬ i2 = 0 → wp_X3_lay (70 + 2 * i1.toNatClampNeg) i2 i3 Mb (fun M5105 => K 1 M5105)) ∧ (i2 = 0 → wp_X3_lay (70 + 2 * i1.toNatClampNeg) i2 0 Mb (fun M5106 => K 1 M5106)))) ∧ (¬ i2 = 0 → (i3 ≤ 40 → vp_in i1 4 ∧ ((¬ i2 = 0 → wp_X3_lay (70 + 2 * i1.toNatClampNeg) i2 i3 Mb (fun M5111 => K 1 M5111)) ∧ (i2 = 0 → wp_X3_lay (70 + 2 * i1.toNatClampNeg) i2 0 Mb (fun M5112 => K 1 M5112)))) ∧ (¬ i3 ≤ 40 → wp_X7_refuse (-1000000001) Mb (fun r5113 M5113 => K r5113 M5113)))
set_option maxRecDepth 100000 in
def wp_X7_sheet (i1 : Int32) (i2 : Int32) (i3 : Int32) (M : Mem) (K : Int32 → Mem → Prop) : Prop := wp_X7_isSheet i1 M (fun r1 M1 => (r1 = 0 → wp_X7_refuse (-1000000001) M1 (fun r3 M3 => K r3 M3)) ∧ (¬ r1 = 0 → (i2 = 0 → (i2 = 0 → wp_X7_sheet_b51 K i1 i2 i3 M1) ∧ (¬ i2 = 0 → (0 ≤ i3 → wp_X7_sheet_b51 K i1 i2 i3 M1) ∧ (¬ 0 ≤ i3 → wp_X7_refuse (-1000000003) M1 (fun r7 M7 => K r7 M7)))) ∧ (¬ i2 = 0 → (i2 = 8 → (i2 = 0 → wp_X7_sheet_b51 K i1 i2 i3 M1) ∧ (¬ i2 = 0 → (0 ≤ i3 → wp_X7_sheet_b51 K i1 i2 i3 M1) ∧ (¬ 0 ≤ i3 → wp_X7_refuse (-1000000003) M1 (fun r11 M11 => K r11 M11)))) ∧ (¬ i2 = 8 → (i2 = 16 → (i2 = 0 → wp_X7_sheet_b51 K i1 i2 i3 M1) ∧ (¬ i2 = 0 → (0 ≤ i3 → wp_X7_sheet_b51 K i1 i2 i3 M1) ∧ (¬ 0 ≤ i3 → wp_X7_refuse (-1000000003) M1 (fun r15 M15 => K r15 M15)))) ∧ (¬ i2 = 16 → (i2 = 32 → (i2 = 0 → wp_X7_sheet_b51 K i1 i2 i3 M1) ∧ (¬ i2 = 0 → (0 ≤ i3 → wp_X7_sheet_b51 K i1 i2 i3 M1) ∧ (¬ 0 ≤ i3 → wp_X7_refuse (-1000000003) M1 (fun r19 M19 => K r19 M19)))) ∧ (¬ i2 = 32 → wp_X7_refuse (-1000000001) M1 (fun r20 M20 => K r20 M20)))))))
set_option maxRecDepth 100000 in
def wp_X7_put (i1 : Int32) (i2 : Int32) (i3 : Int32) (M : Mem) (K : Int32 → Mem → Prop) : Prop := wp_X7_isSheet i1 M (fun r1 M1 => (¬ r1 = 0 → vp_in i1 4 ∧ (wp_X3_isMissing (70 + 2 * i1.toNatClampNeg) M1 (fun r5 M5 => (r5 = 0 → wp_X7_isWithin i2 0 ((M5 (70 + 2 * i1.toNatClampNeg) 2) - 1) M5 (fun r7 M7 => (¬ r7 = 0 → wp_X3_write (70 + 2 * i1.toNatClampNeg) i2 i3 M7 (fun M9 => K 1 M9)) ∧ (r7 = 0 → wp_X7_refuse (-1000000001) M7 (fun r10 M10 => K r10 M10)))) ∧ (¬ r5 = 0 → wp_X7_refuse (-1000000002) M5 (fun r11 M11 => K r11 M11))))) ∧ (r1 = 0 → wp_X7_refuse (-1000000001) M1 (fun r12 M12 => K r12 M12)))
set_option maxRecDepth 100000 in
def wp_X7_move (i1 : Int32) (i2 : Int32) (i3 : Int32) (i4 : Int32) (i5 : Int32) (M : Mem) (K : Int32 → Mem → Prop) : Prop := wp_X7_isSheet i1 M (fun r1 M1 => (r1 = 0 → wp_X7_refuse (-1000000001) M1 (fun r3 M3 => K r3 M3)) ∧ (¬ r1 = 0 → wp_X7_isSheet i3 M1 (fun r4 M4 => (¬ r4 = 0 → vp_in i1 4 ∧ (vp_in i3 4 ∧ (wp_X3_isMissing (70 + 2 * i1.toNatClampNeg) M4 (fun r10 M10 => (¬ r10 = 0 → wp_X7_refuse (-1000000002) M10 (fun r12 M12 => K r12 M12)) ∧ (r10 = 0 → wp_X3_isMissing (70 + 2 * i3.toNatClampNeg) M10 (fun r13 M13 => (r13 = 0 → ((M13 (70 + 2 * i1.toNatClampNeg) 1) = (M13 (70 + 2 * i3.toNatClampNeg) 1) → wp_X3_hasNumbers (70 + 2 * i1.toNatClampNeg) i2 i5 M13 (fun r16 M16 => (r16 = 0 → wp_X7_refuse (-1000000001) M16 (fun r18 M18 => K r18 M18)) ∧ (¬ r16 = 0 → wp_X3_hasNumbers (70 + 2 * i3.toNatClampNeg) i4 i5 M16 (fun r19 M19 => (¬ r19 = 0 → ¬ i2 < 0 ∧ (¬ i4 < 0 ∧ (¬ i5 < 0 ∧ (i2.toNatClampNeg + i5.toNatClampNeg ≤ ln (rf (70 + 2 * i1.toNatClampNeg) 0) ∧ (i4.toNatClampNeg + i5.toNatClampNeg ≤ ln (rf (70 + 2 * i3.toNatClampNeg) 0) ∧ ((∀ Mg_28 : Mem, Mg_28 = (upA M19 (rf (70 + 2 * i3.toNatClampNeg) 0) (va_cpy (M19 (rf (70 + 2 * i1.toNatClampNeg) 0)) (M19 (rf (70 + 2 * i3.toNatClampNeg) 0)) i2.toNatClampNeg i4.toNatClampNeg i5.toNatClampNeg)) → K i5 Mg_28))))))) ∧ (r19 = 0 → wp_X7_refuse (-1000000001) M19 (fun r29 M29 => K r29 M29)))))) ∧ (¬ (M13 (70 + 2 * i1.toNatClampNeg) 1) = (M13 (70 + 2 * i3.toNatClampNeg) 1) → wp_X7_refuse (-1000000005) M13 (fun r30 M30 => K r30 M30))) ∧ (¬ r13 = 0 → wp_X7_refuse (-1000000002) M13 (fun r31 M31 => K r31 M31)))))))) ∧ (r4 = 0 → wp_X7_refuse (-1000000001) M4 (fun r32 M32 => K r32 M32)))))
set_option maxRecDepth 100000 in
def wp_X7_edges_l56 (K : Int32 → Mem → Prop) (x2 : Nat) (i3 : Int32) (B56 : Int32 → Mem → Prop) (i4 : Int32) (Mb : Mem) : Prop := (i3 ≤ i4 → K i3 Mb) ∧ (¬ i3 ≤ i4 → vp_in i4 (ln (rf x2 0)) ∧ (wp_X7_isWithin (Mb (rf x2 0) i4.toNatClampNeg) 0 99 Mb (fun r5604 M5604 => (¬ r5604 = 0 → vp_in i4 9 ∧ (vp_in i4 (ln (rf x2 0)) ∧ (B56 (i4 + 1) (up M5604 (14 + i4.toNatClampNeg) 3 (M5604 (rf x2 0) i4.toNatClampNeg))))) ∧ (r5604 = 0 → K i4 M5604))))
set_option maxRecDepth 100000 in
def wp_X7_edges_L56 (K : Int32 → Mem → Prop) (x2 : Nat) (i3 : Int32) : Nat → Int32 → Mem → Prop
  | 0 => fun _ _ => False
  | n + 1 => wp_X7_edges_l56 K x2 i3 (wp_X7_edges_L56 K x2 i3 n)
set_option maxRecDepth 100000 in
def wp_X7_edges (i1 : Int32) (M : Mem) (K : Int32 → Mem → Prop) : Prop := wp_X7_isSheet i1 M (fun r1 M1 => (¬ r1 = 0 → vp_in i1 4 ∧ (wp_X3_isMissing (70 + 2 * i1.toNatClampNeg) M1 (fun r5 M5 => (r5 = 0 → (∀ g_7 : Int32, g_7 = (if (M5 12 3) < (M5 (70 + 2 * i1.toNatClampNeg) 2) then (M5 12 3) else (M5 (70 + 2 * i1.toNatClampNeg) 2)) → ∃ n, wp_X7_edges_L56 K (70 + 2 * i1.toNatClampNeg) g_7 n 0 M5)) ∧ (¬ r5 = 0 → wp_X7_refuse (-1000000002) M5 (fun r8 M8 => K r8 M8))))) ∧ (r1 = 0 → wp_X7_refuse (-1000000001) M1 (fun r9 M9 => K r9 M9)))
set_option maxRecDepth 100000 in
def wp_X7_judge_l56 (K : Int32 → Mem → Prop) (x2 : Nat) (i3 : Int32) (B56 : Int32 → Mem → Prop) (i4 : Int32) (Mb : Mem) : Prop := (i3 ≤ i4 → (¬ (Mb x2 2) = (Mb 12 3) → K i3 Mb) ∧ ((Mb x2 2) = (Mb 12 3) → K (-1) Mb)) ∧ (¬ i3 ≤ i4 → vp_in i4 (ln (rf x2 0)) ∧ (vp_in i4 9 ∧ (((Mb (rf x2 0) i4.toNatClampNeg) = (Mb (14 + i4.toNatClampNeg) 5) → B56 (i4 + 1) Mb) ∧ (¬ (Mb (rf x2 0) i4.toNatClampNeg) = (Mb (14 + i4.toNatClampNeg) 5) → K i4 Mb))))
set_option maxRecDepth 100000 in
def wp_X7_judge_L56 (K : Int32 → Mem → Prop) (x2 : Nat) (i3 : Int32) : Nat → Int32 → Mem → Prop
  | 0 => fun _ _ => False
  | n + 1 => wp_X7_judge_l56 K x2 i3 (wp_X7_judge_L56 K x2 i3 n)
set_option maxRecDepth 100000 in
def wp_X7_judge (i1 : Int32) (M : Mem) (K : Int32 → Mem → Prop) : Prop := wp_X7_isSheet i1 M (fun r1 M1 => (¬ r1 = 0 → vp_in i1 4 ∧ (wp_X3_isMissing (70 + 2 * i1.toNatClampNeg) M1 (fun r5 M5 => (r5 = 0 → (∀ g_7 : Int32, g_7 = (if (M5 12 3) < (M5 (70 + 2 * i1.toNatClampNeg) 2) then (M5 12 3) else (M5 (70 + 2 * i1.toNatClampNeg) 2)) → ∃ n, wp_X7_judge_L56 K (70 + 2 * i1.toNatClampNeg) g_7 n 0 M5)) ∧ (¬ r5 = 0 → wp_X7_refuse (-1000000002) M5 (fun r8 M8 => K r8 M8))))) ∧ (r1 = 0 → wp_X7_refuse (-1000000001) M1 (fun r9 M9 => K r9 M9)))
set_option maxRecDepth 100000 in
def wp_X7_image (M : Mem) (K : Int32 → Mem → Prop) : Prop := wp_X6_copyFrom 25 1 M (fun M1 => K ((up M1 0 7 ((M1 0 7) + 1)) 0 7) (up M1 0 7 ((M1 0 7) + 1)))
set_option maxRecDepth 100000 in
def wp_X7_restore (M : Mem) (K : Int32 → Mem → Prop) : Prop := (¬ (M 0 7) = 0 → wp_X6_copyFrom 1 25 M (fun M2 => K (M2 12 6) M2)) ∧ ((M 0 7) = 0 → wp_X7_refuse (-1000000002) M (fun r3 M3 => K r3 M3))
set_option maxRecDepth 100000 in
def wp_X7_tell (i1 : Int32) (M : Mem) (K : Int32 → Mem → Prop) : Prop := ((M 1 6) < 20 → vp_in (M 1 6) 20 ∧ (K ((up (up M 24 (M 1 6).toNatClampNeg i1) 1 6 (((up M 24 (M 1 6).toNatClampNeg i1) 1 6) + 1)) 1 6) (up (up M 24 (M 1 6).toNatClampNeg i1) 1 6 (((up M 24 (M 1 6).toNatClampNeg i1) 1 6) + 1)))) ∧ (¬ (M 1 6) < 20 → wp_X7_refuse (-1000000004) M (fun r3 M3 => K r3 M3))
set_option maxRecDepth 100000 in
def wp_X7_check_l22 (K : Int32 → Mem → Prop) (i1 : Int32) (B22 : Int32 → Mem → Prop) (i2 : Int32) (Mb : Mem) : Prop := (i1 ≤ i2 → K 0 Mb) ∧ (¬ i1 ≤ i2 → wp_X0_passDay 49 0 Mb (fun M2202 => vp_in i2 20 ∧ (wp_X0_endedMany 49 M2202 (fun r2204 M2204 => ((M2202 24 i2.toNatClampNeg) = r2204 → B22 (i2 + 1) M2204) ∧ (¬ (M2202 24 i2.toNatClampNeg) = r2204 → K (1 + i2) M2204)))))
set_option maxRecDepth 100000 in
def wp_X7_check_L22 (K : Int32 → Mem → Prop) (i1 : Int32) : Nat → Int32 → Mem → Prop
  | 0 => fun _ _ => False
  | n + 1 => wp_X7_check_l22 K i1 (wp_X7_check_L22 K i1 n)
set_option maxRecDepth 100000 in
def wp_X7_check (M : Mem) (K : Int32 → Mem → Prop) : Prop := wp_X7_think  (up M 1 6 0) (fun M1 => ∃ n, wp_X7_check_L22 K (M 1 6) n 0 M1)
set_option maxRecDepth 100000 in
def wp_X7_count (i1 : Int32) (M : Mem) (K : Int32 → Mem → Prop) : Prop := (i1 = 0 → K (M 12 3) M) ∧ (¬ i1 = 0 → (i1 = 1 → K (M 12 6) M) ∧ (¬ i1 = 1 → (i1 = 2 → K (M 12 4) M) ∧ (¬ i1 = 2 → (i1 = 3 → K (M 12 5) M) ∧ (¬ i1 = 3 → (i1 = 4 → K (M 12 7) M) ∧ (¬ i1 = 4 → (i1 = 5 → K (M 12 8) M) ∧ (¬ i1 = 5 → (i1 = 6 → wp_X0_setEnded 12 M (fun r8 M8 => K r8 M8)) ∧ (¬ i1 = 6 → (i1 = 7 → wp_X0_edgesTogether 12 M (fun r10 M10 => K r10 M10)) ∧ (¬ i1 = 7 → (i1 = 8 → K (M 1 5) M) ∧ (¬ i1 = 8 → (i1 = 9 → K (M 1 6) M) ∧ (¬ i1 = 9 → (i1 = 10 → K (M 67 1) M) ∧ (¬ i1 = 10 → (i1 = 11 → K (M 1 7) M) ∧ (¬ i1 = 11 → wp_X7_refuse (-1000000001) M (fun r15 M15 => K r15 M15)))))))))))))
set_option maxRecDepth 100000 in
def wp_X7_told (i1 : Int32) (M : Mem) (K : Int32 → Mem → Prop) : Prop := wp_X7_isWithin i1 1 5 M (fun r1 M1 => (r1 = 0 → wp_X7_refuse (-1000000001) M1 (fun r3 M3 => K r3 M3)) ∧ (¬ r1 = 0 → vp_in i1 6 ∧ (K (M1 78 i1.toNatClampNeg) M1)))
