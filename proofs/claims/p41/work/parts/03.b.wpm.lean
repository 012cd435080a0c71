set_option maxRecDepth 100000 in
def wp_X8_in (i0 : Int32) (i1 : Int32) (i2 : Int32) (M : Mem) (K : Int32 → Mem → Prop) : Prop := (i0 < i1 → K 0 M) ∧ (¬ i0 < i1 → (i2 < i0 → K 0 M) ∧ (¬ i2 < i0 → K 1 M))
set_option maxRecDepth 100000 in
def wp_X8_errs (i1 : Int32) (M : Mem) (K : Int32 → Mem → Prop) : Prop := vp_in ((-1000000000) - i1) 6 ∧ (vp_in ((-1000000000) - i1) 6 ∧ (K i1 (up M 83 ((-1000000000) - i1).toNatClampNeg ((M 83 ((-1000000000) - i1).toNatClampNeg) + 1))))
set_option maxRecDepth 100000 in
def wp_X8_held (i0 : Int32) (i1 : Int32) (i2 : Int32) (M : Mem) (K : Int32 → Mem → Prop) : Prop := (i1 ≤ i0 → (i0 ≤ i2 → K i0 M) ∧ (¬ i0 ≤ i2 → K i2 M)) ∧ (¬ i1 ≤ i0 → K i1 M)
set_option maxRecDepth 100000 in
def wp_X8_moveAll_l2 (K : Mem → Prop) (x1 : Nat) (x2 : Nat) (B2 : Int32 → Mem → Prop) (i3 : Int32) (Mb : Mem) : Prop := (244 ≤ i3 → K Mb) ∧ (¬ 244 ≤ i3 → vp_in i3 (ln x1) ∧ (vp_in i3 (ln x2) ∧ (B2 (i3 + 1) (up Mb x2 i3.toNatClampNeg (Mb x1 i3.toNatClampNeg)))))
set_option maxRecDepth 100000 in
def wp_X8_moveAll_L2 (K : Mem → Prop) (x1 : Nat) (x2 : Nat) : Nat → Int32 → Mem → Prop
  | 0 => fun _ _ => False
  | n + 1 => wp_X8_moveAll_l2 K x1 x2 (wp_X8_moveAll_L2 K x1 x2 n)
set_option maxRecDepth 100000 in
def wp_X8_moveAll (x1 : Nat) (x2 : Nat) (M : Mem) (K : Mem → Prop) : Prop := ∃ n, wp_X8_moveAll_L2 K x1 x2 n 0 M
set_option maxRecDepth 100000 in
def wp_X8_bits_l4 (K : Int32 → Mem → Prop) (B4 : Int32 → Int32 → Mem → Prop) (i1 : Int32) (i2 : Int32) (Mb : Mem) : Prop := (i2 = 0 → K i1 Mb) ∧ (¬ i2 = 0 → B4 (i1 + 1) (i2 &&& (i2 - 1)) Mb)
set_option maxRecDepth 100000 in
def wp_X8_bits_L4 (K : Int32 → Mem → Prop) : Nat → Int32 → Int32 → Mem → Prop
  | 0 => fun _ _ _ => False
  | n + 1 => wp_X8_bits_l4 K (wp_X8_bits_L4 K n)
set_option maxRecDepth 100000 in
def wp_X8_bits (i0 : Int32) (M : Mem) (K : Int32 → Mem → Prop) : Prop := ∃ n, wp_X8_bits_L4 K  n 0 i0 M
set_option maxRecDepth 100000 in
def wp_X8_its (i1 : Int32) (i2 : Int32) (M : Mem) (K : Int32 → Mem → Prop) : Prop := vp_in ((11 + (7 * i1)) + i2) 244 ∧ (K (M 80 ((11 + (7 * i1)) + i2).toNatClampNeg) M)
set_option maxRecDepth 100000 in
def wp_X8_gets (i1 : Int32) (i2 : Int32) (i3 : Int32) (M : Mem) (K : Mem → Prop) : Prop := vp_in ((11 + (7 * i1)) + i2) 244 ∧ (K (up M 80 ((11 + (7 * i1)) + i2).toNatClampNeg i3))
set_option maxRecDepth 100000 in
def wp_X8_isQuarrel (i1 : Int32) (M : Mem) (K : Int32 → Mem → Prop) : Prop := wp_X8_in i1 0 ((M 80 2) - 1) M (fun r1 M1 => (r1 = 0 ∨ r1 = 1) ∧ (K r1 M1))
set_option maxRecDepth 100000 in
def wp_X8_isArea (i0 : Int32) (M : Mem) (K : Int32 → Mem → Prop) : Prop := wp_X8_in i0 0 9 M (fun r1 M1 => (r1 = 0 ∨ r1 = 1) ∧ (K r1 M1))
set_option maxRecDepth 100000 in
def wp_X8_becomes (i1 : Int32) (i2 : Int32) (M : Mem) (K : Int32 → Mem → Prop) : Prop := vp_in i1 244 ∧ (vp_in i1 244 ∧ (K (M 80 i1.toNatClampNeg) (up M 80 i1.toNatClampNeg i2)))
set_option maxRecDepth 100000 in
def wp_X8_set (i1 : Int32) (i2 : Int32) (M : Mem) (K : Int32 → Mem → Prop) : Prop := wp_X8_in i1 0 1 M (fun r1 M1 => (r1 = 0 → wp_X8_in i1 2 3 M1 (fun r3 M3 => (r3 = 0 → wp_X8_errs (-1000000001) M3 (fun r6 M6 => K r6 M6)) ∧ (¬ r3 = 0 → wp_X8_in i2 0 99999 M3 (fun r7 M7 => (r7 = 0 → wp_X8_errs (-1000000001) M7 (fun r10 M10 => K r10 M10)) ∧ (¬ r7 = 0 → wp_X8_becomes (7 + i1) i2 M7 (fun r12 M12 => K r12 M12)))))) ∧ (¬ r1 = 0 → wp_X8_isArea i2 M1 (fun r13 M13 => (r13 = 0 → wp_X8_errs (-1000000001) M13 (fun r15 M15 => K r15 M15)) ∧ (¬ r13 = 0 → wp_X8_becomes (7 + i1) i2 M13 (fun r16 M16 => K r16 M16)))))
set_option maxRecDepth 100000 in
def wp_X8_inArea_l18 (K : Int32 → Mem → Prop) (i1 : Int32) (B18 : Int32 → Int32 → Mem → Prop) (i2 : Int32) (i3 : Int32) (Mb : Mem) : Prop := ((Mb 80 2) ≤ i3 → K i2 Mb) ∧ (¬ (Mb 80 2) ≤ i3 → wp_X8_its i3 2 Mb (fun r1802 M1802 => (¬ r1802 = i1 → B18 (i2 ||| 0) (i3 + 1) M1802) ∧ (r1802 = i1 → B18 (i2 ||| ((1 : Int32) <<< (i3 &&& 31))) (i3 + 1) M1802)))
set_option maxRecDepth 100000 in
def wp_X8_inArea_L18 (K : Int32 → Mem → Prop) (i1 : Int32) : Nat → Int32 → Int32 → Mem → Prop
  | 0 => fun _ _ _ => False
  | n + 1 => wp_X8_inArea_l18 K i1 (wp_X8_inArea_L18 K i1 n)
set_option maxRecDepth 100000 in
def wp_X8_inArea (i1 : Int32) (M : Mem) (K : Int32 → Mem → Prop) : Prop := wp_X8_isArea i1 M (fun r1 M1 => (¬ r1 = 0 → ∃ n, wp_X8_inArea_L18 K i1 n 0 0 M1) ∧ (r1 = 0 → wp_X8_errs (-1000000001) M1 (fun r3 M3 => K r3 M3)))
set_option maxRecDepth 100000 in
def wp_X8_quarrel (i1 : Int32) (i2 : Int32) (i3 : Int32) (i4 : Int32) (M : Mem) (K : Int32 → Mem → Prop) : Prop := wp_X8_in i1 0 69 M (fun r1 M1 => (r1 = 0 → wp_X8_errs (-1000000001) M1 (fun r3 M3 => K r3 M3)) ∧ (¬ r1 = 0 → wp_X8_isArea i2 M1 (fun r4 M4 => (r4 = 0 → wp_X8_errs (-1000000001) M4 (fun r6 M6 => K r6 M6)) ∧ (¬ r4 = 0 → wp_X8_in i3 0 99 M4 (fun r7 M7 => (r7 = 0 → wp_X8_errs (-1000000001) M7 (fun r9 M9 => K r9 M9)) ∧ (¬ r7 = 0 → wp_X8_in i4 (-1) ((M7 80 2) - 1) M7 (fun r10 M10 => (¬ r10 = 0 → (¬ (M10 80 2) = 9 → wp_X8_gets (M10 80 2) 0 (i1 / 10) M10 (fun M13 => wp_X8_gets (M10 80 2) 1 (i1 - i1 / 10 * 10) M13 (fun M14 => wp_X8_gets (M10 80 2) 2 i2 M14 (fun M15 => wp_X8_gets (M10 80 2) 3 i3 M15 (fun M16 => wp_X8_gets (M10 80 2) 4 i4 M16 (fun M17 => wp_X8_gets (M10 80 2) 5 0 M17 (fun M18 => wp_X8_gets (M10 80 2) 6 0 M18 (fun M19 => K (M10 80 2) (up M19 80 2 ((M19 80 2) + 1)))))))))) ∧ ((M10 80 2) = 9 → wp_X8_errs (-1000000004) M10 (fun r20 M20 => K r20 M20))) ∧ (r10 = 0 → wp_X8_errs (-1000000001) M10 (fun r21 M21 => K r21 M21)))))))))
set_option maxRecDepth 100000 in
def wp_X8_workedOut (i0 : Int32) (i1 : Int32) (i2 : Int32) (M : Mem) (K : Int32 → Mem → Prop) : Prop := (i0 = 37 → (¬ i2 = 0 → ¬ i2 = 0 ∧ (K (i1 - i1 / i2 * i2) M)) ∧ (i2 = 0 → K 0 M)) ∧ (¬ i0 = 37 → (i0 = 38 → (i1 = 0 → K 0 M) ∧ (¬ i1 = 0 → (i2 = 0 → K 0 M) ∧ (¬ i2 = 0 → K 1 M))) ∧ (¬ i0 = 38 → (i0 = 39 → (¬ i1 = 0 → K 1 M) ∧ (i1 = 0 → (i2 = 0 → K 0 M) ∧ (¬ i2 = 0 → K 1 M))) ∧ (¬ i0 = 39 → (i0 = 40 → (¬ i1 = 0 → K 1 M) ∧ (i1 = 0 → (i2 = 0 → K 0 M) ∧ (¬ i2 = 0 → K 1 M))) ∧ (¬ i0 = 40 → (i0 = 41 → (¬ i1 = 0 → K 1 M) ∧ (i1 = 0 → (i2 = 0 → K 0 M) ∧ (¬ i2 = 0 → K 1 M))) ∧ (¬ i0 = 41 → (i0 = 42 → K (i1 * i2) M) ∧ (¬ i0 = 42 → (i0 = 43 → K (i1 + i2) M) ∧ (¬ i0 = 43 → (i0 = 44 → (¬ i1 = 0 → K 1 M) ∧ (i1 = 0 → (i2 = 0 → K 0 M) ∧ (¬ i2 = 0 → K 1 M))) ∧ (¬ i0 = 44 → (i0 = 45 → K (i1 - i2) M) ∧ (¬ i0 = 45 → (i0 = 46 → (¬ i1 = 0 → K 1 M) ∧ (i1 = 0 → (i2 = 0 → K 0 M) ∧ (¬ i2 = 0 → K 1 M))) ∧ (¬ i0 = 46 → (i0 = 47 → (¬ i2 = 0 → ¬ i2 = 0 ∧ (K (i1 / i2) M)) ∧ (i2 = 0 → K 0 M)) ∧ (¬ i0 = 47 → (i0 = 48 → (¬ i1 = 0 → K 1 M) ∧ (i1 = 0 → (i2 = 0 → K 0 M) ∧ (¬ i2 = 0 → K 1 M))) ∧ (¬ i0 = 48 → (i0 = 49 → (¬ i1 = 0 → K 1 M) ∧ (i1 = 0 → (i2 = 0 → K 0 M) ∧ (¬ i2 = 0 → K 1 M))) ∧ (¬ i0 = 49 → (i0 = 50 → (¬ i1 = 0 → K 1 M) ∧ (i1 = 0 → (i2 = 0 → K 0 M) ∧ (¬ i2 = 0 → K 1 M))) ∧ (¬ i0 = 50 → (i0 = 51 → (¬ i1 = 0 → K 1 M) ∧ (i1 = 0 → (i2 = 0 → K 0 M) ∧ (¬ i2 = 0 → K 1 M))) ∧ (¬ i0 = 51 → (i0 = 52 → (¬ i1 = 0 → K 1 M) ∧ (i1 = 0 → (i2 = 0 → K 0 M) ∧ (¬ i2 = 0 → K 1 M))) ∧ (¬ i0 = 52 → (i0 = 53 → (¬ i1 = 0 → K 1 M) ∧ (i1 = 0 → (i2 = 0 → K 0 M) ∧ (¬ i2 = 0 → K 1 M))) ∧ (¬ i0 = 53 → (i0 = 54 → (¬ i1 = 0 → K 1 M) ∧ (i1 = 0 → (i2 = 0 → K 0 M) ∧ (¬ i2 = 0 → K 1 M))) ∧ (¬ i0 = 54 → (i0 = 55 → (¬ i1 = 0 → K 1 M) ∧ (i1 = 0 → (i2 = 0 → K 0 M) ∧ (¬ i2 = 0 → K 1 M))) ∧ (¬ i0 = 55 → (i0 = 56 → (¬ i1 = 0 → K 1 M) ∧ (i1 = 0 → (i2 = 0 → K 0 M) ∧ (¬ i2 = 0 → K 1 M))) ∧ (¬ i0 = 56 → (i0 = 57 → (¬ i1 = 0 → K 1 M) ∧ (i1 = 0 → (i2 = 0 → K 0 M) ∧ (¬ i2 = 0 → K 1 M))) ∧ (¬ i0 = 57 → (i0 = 58 → (¬ i1 = 0 → K 1 M) ∧ (i1 = 0 → (i2 = 0 → K 0 M) ∧ (¬ i2 = 0 → K 1 M))) ∧ (¬ i0 = 58 → (i0 = 59 → (¬ i1 = 0 → K 1 M) ∧ (i1 = 0 → (i2 = 0 → K 0 M) ∧ (¬ i2 = 0 → K 1 M))) ∧ (¬ i0 = 59 → (i0 = 60 → (i2 ≤ i1 → K 0 M) ∧ (¬ i2 ≤ i1 → K 1 M)) ∧ (¬ i0 = 60 → (i0 = 61 → (¬ i1 = i2 → K 0 M) ∧ (i1 = i2 → K 1 M)) ∧ (¬ i0 = 61 → (i0 = 62 → (i1 ≤ i2 → K 0 M) ∧ (¬ i1 ≤ i2 → K 1 M)) ∧ (¬ i0 = 62 → (¬ i1 = 0 → K 1 M) ∧ (i1 = 0 → (i2 = 0 → K 0 M) ∧ (¬ i2 = 0 → K 1 M))))))))))))))))))))))))))))
set_option maxRecDepth 100000 in
def wp_X8_walks_l39 (K : Int32 → Mem → Prop) (i1 : Int32) (i5 : Int32) (B39 : Int32 → Int32 → Mem → Prop) (i6 : Int32) (i7 : Int32) (Mb : Mem) : Prop := vp_in (5 + i1) 244 ∧ (((i5 + (Mb 80 (5 + i1).toNatClampNeg)) ≤ i7 → K (Mb 85 0) Mb) ∧ (¬ (i5 + (Mb 80 (5 + i1).toNatClampNeg)) ≤ i7 → vp_in i7 244 ∧ ((20000 ≤ (Mb 80 i7.toNatClampNeg) → (¬ (Mb 80 i7.toNatClampNeg) = 20033 → vp_in ((i6 + Int32.ofInt (-1)) - 1) 50 ∧ (vp_in (i6 + Int32.ofInt (-1)) 50 ∧ (wp_X8_workedOut ((Mb 80 i7.toNatClampNeg) - 20000) (Mb 85 ((i6 + Int32.ofInt (-1)) - 1).toNatClampNeg) (Mb 85 (i6 + Int32.ofInt (-1)).toNatClampNeg) Mb (fun r3908 M3908 => vp_in ((i6 + Int32.ofInt (-1)) - 1) 50 ∧ (B39 (i6 + Int32.ofInt (-1)) (i7 + 1) (up M3908 85 ((i6 + Int32.ofInt (-1)) - 1).toNatClampNeg r3908)))))) ∧ ((Mb 80 i7.toNatClampNeg) = 20033 → vp_in (i6 - 1) 50 ∧ ((¬ (Mb 85 (i6 - 1).toNatClampNeg) = 0 → vp_in (i6 - 1) 50 ∧ (B39 i6 (i7 + 1) (up Mb 85 (i6 - 1).toNatClampNeg 0))) ∧ ((Mb 85 (i6 - 1).toNatClampNeg) = 0 → vp_in (i6 - 1) 50 ∧ (B39 i6 (i7 + 1) (up Mb 85 (i6 - 1).toNatClampNeg 1)))))) ∧ (¬ 20000 ≤ (Mb 80 i7.toNatClampNeg) → (10000 ≤ (Mb 80 i7.toNatClampNeg) → vp_in ((Mb 80 i7.toNatClampNeg) - 10000) 3 ∧ (vp_in i6 50 ∧ (B39 (i6 + 1) (i7 + 1) (up Mb 85 i6.toNatClampNeg (Mb 86 ((Mb 80 i7.toNatClampNeg) - 10000).toNatClampNeg))))) ∧ (¬ 10000 ≤ (Mb 80 i7.toNatClampNeg) → vp_in i6 50 ∧ (B39 (i6 + 1) (i7 + 1) (up Mb 85 i6.toNatClampNeg (Mb 80 i7.toNatClampNeg))))))))
set_option maxRecDepth 100000 in
def wp_X8_walks_L39 (K : Int32 → Mem → Prop) (i1 : Int32) (i5 : Int32) : Nat → Int32 → Int32 → Mem → Prop
  | 0 => fun _ _ _ => False
  | n + 1 => wp_X8_walks_l39 K i1 i5 (wp_X8_walks_L39 K i1 i5 n)
set_option maxRecDepth 100000 in
def wp_X8_walks (i1 : Int32) (i2 : Int32) (i3 : Int32) (i4 : Int32) (M : Mem) (K : Int32 → Mem → Prop) : Prop := ∃ n, wp_X8_walks_L39 K i1 (144 + (50 * i1)) n 0 (144 + (50 * i1)) (up (up (up M 86 0 i2) 86 1 i3) 86 2 i4)
set_option maxRecDepth 100000 in
def wp_X8_lawOf (i1 : Int32) (i2 : Int32) (i3 : Int32) (i4 : Int32) (M : Mem) (K : Int32 → Mem → Prop) : Prop := vp_in (5 + i1) 244 ∧ (((M 80 (5 + i1).toNatClampNeg) < 0 → (¬ i1 = 0 → wp_X8_held (9 - (i2 / 11)) 0 99 M (fun r4 M4 => K r4 M4)) ∧ (i1 = 0 → wp_X8_held 20 0 99 M (fun r5 M5 => K r5 M5))) ∧ (¬ (M 80 (5 + i1).toNatClampNeg) < 0 → wp_X8_walks i1 i2 i3 i4 M (fun r6 M6 => wp_X8_held r6 0 99 M6 (fun r7 M7 => K r7 M7))))
set_option maxRecDepth 100000 in
def wp_X8_gains (i1 : Int32) (M : Mem) (K : Int32 → Mem → Prop) : Prop := wp_X8_its i1 1 M (fun r1 M1 => wp_X8_its i1 3 M1 (fun r2 M2 => wp_X8_its i1 6 M2 (fun r3 M3 => wp_X8_lawOf 0 r2 r3 ((M3 80 0) - (M3 80 0) / 7 * 7) M3 (fun r4 M4 => wp_X8_its i1 0 M4 (fun r5 M5 => (r5 = 1 → K (r4 + r1) M5) ∧ (¬ r5 = 1 → (r5 = 2 → K (2 * r4) M5) ∧ (¬ r5 = 2 → (r5 = 3 → K (r4 / 2) M5) ∧ (¬ r5 = 3 → (r5 = 4 → wp_X8_its i1 6 M5 (fun r10 M10 => wp_X8_held ((r4 + r1) - (r10 / 10)) 0 200 M10 (fun r11 M11 => K r11 M11))) ∧ (¬ r5 = 4 → (r5 = 5 → (¬ ((M5 80 0) - (M5 80 0) / 6 * 6) = 0 → K (2 * r4) M5) ∧ (((M5 80 0) - (M5 80 0) / 6 * 6) = 0 → K 0 M5)) ∧ (¬ r5 = 5 → (r5 = 6 → K 0 M5) ∧ (¬ r5 = 6 → K r4 M5)))))))))))
set_option maxRecDepth 100000 in
def wp_X8_needs (i1 : Int32) (M : Mem) (K : Int32 → Mem → Prop) : Prop := wp_X8_its i1 1 M (fun r1 M1 => wp_X8_its i1 0 M1 (fun r2 M2 => (r2 = 1 → K (50 + (2 * r1)) M2) ∧ (¬ r2 = 1 → (r2 = 2 → K 30 M2) ∧ (¬ r2 = 2 → (r2 = 3 → K 80 M2) ∧ (¬ r2 = 3 → (r2 = 4 → K (55 + (2 * r1)) M2) ∧ (¬ r2 = 4 → (r2 = 5 → K (30 + r1) M2) ∧ (¬ r2 = 5 → (r2 = 6 → K (80 - r1) M2) ∧ (¬ r2 = 6 → K 50 M2))))))))
set_option maxRecDepth 100000 in
def wp_X8_dulls (i1 : Int32) (M : Mem) (K : Int32 → Mem → Prop) : Prop := wp_X8_its i1 0 M (fun r1 M1 => (r1 = 1 → K 4 M1) ∧ (¬ r1 = 1 → (r1 = 2 → K 6 M1) ∧ (¬ r1 = 2 → (r1 = 3 → K 1 M1) ∧ (¬ r1 = 3 → (r1 = 4 → K 4 M1) ∧ (¬ r1 = 4 → (r1 = 5 → K 6 M1) ∧ (¬ r1 = 5 → (r1 = 6 → K 1 M1) ∧ (¬ r1 = 6 → K 3 M1)))))))
set_option maxRecDepth 100000 in
def wp_X8_ofQuarrel (i1 : Int32) (i2 : Int32) (M : Mem) (K : Int32 → Mem → Prop) : Prop := wp_X8_isQuarrel i1 M (fun r1 M1 => (r1 = 0 → wp_X8_errs (-1000000001) M1 (fun r3 M3 => K r3 M3)) ∧ (¬ r1 = 0 → wp_X8_in i2 0 9 M1 (fun r4 M4 => (¬ r4 = 0 → (i2 = 7 → wp_X8_gains i1 M4 (fun r7 M7 => K r7 M7)) ∧ (¬ i2 = 7 → (i2 = 8 → wp_X8_needs i1 M4 (fun r9 M9 => K r9 M9)) ∧ (¬ i2 = 8 → (i2 = 9 → wp_X8_dulls i1 M4 (fun r11 M11 => K r11 M11)) ∧ (¬ i2 = 9 → wp_X8_its i1 i2 M4 (fun r12 M12 => K r12 M12))))) ∧ (r4 = 0 → wp_X8_errs (-1000000001) M4 (fun r13 M13 => K r13 M13)))))
set_option maxRecDepth 100000 in
def wp_X8_change_b61 (K : Int32 → Mem → Prop) (i1 : Int32) (i2 : Int32) (i3 : Int32) (t0 : Int32) (Mb : Mem) : Prop := wp_X8_isQuarrel i1 Mb (fun r6101 M6101 => (r6101 = 0 → wp_X8_errs (-1000000001) M6101 (fun r6103 M6103 => K r6103 M6103)) ∧ (¬ r6101 = 0 → (¬ t0 = 0 → (2 ≤ i2 → wp_X8_becomes ((11 + (7 * i1)) + ((5 + i2) - 2)) i3 M6101 (fun r6106 M6106 => K r6106 M6106)) ∧ (¬ 2 ≤ i2 → wp_X8_becomes ((11 + (7 * i1)) + (2 + i2)) i3 M6101 (fun r6107 M6107 => K r6107 M6107))) ∧ (t0 = 0 → wp_X8_errs (-1000000001) M6101 (fun r6108 M6108 => K r6108 M6108))))
set_option maxRecDepth 100000 in
def wp_X8_change (i1 : Int32) (i2 : Int32) (i3 : Int32) (M : Mem) (K : Int32 → Mem → Prop) : Prop := (¬ i2 = 0 → (¬ i2 = 1 → (¬ i2 = 2 → (¬ i2 = 3 → wp_X8_change_b61 K i1 i2 i3 0 M) ∧ (i2 = 3 → wp_X8_in i3 0 999 M (fun r5 M5 => (r5 = 0 → wp_X8_change_b61 K i1 i2 i3 0 M5) ∧ (¬ r5 = 0 → wp_X8_change_b61 K i1 i2 i3 1 M5)))) ∧ (i2 = 2 → wp_X8_in i3 0 1 M (fun r7 M7 => wp_X8_change_b61 K i1 i2 i3 r7 M7))) ∧ (i2 = 1 → wp_X8_in i3 0 99 M (fun r8 M8 => wp_X8_change_b61 K i1 i2 i3 r8 M8))) ∧ (i2 = 0 → wp_X8_isArea i3 M (fun r9 M9 => wp_X8_change_b61 K i1 i2 i3 r9 M9))
set_option maxRecDepth 100000 in
def wp_X8_become (i1 : Int32) (i2 : Int32) (M : Mem) (K : Int32 → Mem → Prop) : Prop := wp_X8_isQuarrel i1 M (fun r1 M1 => (r1 = 0 → wp_X8_errs (-1000000001) M1 (fun r3 M3 => K r3 M3)) ∧ (¬ r1 = 0 → wp_X8_in i2 0 69 M1 (fun r4 M4 => (¬ r4 = 0 → wp_X8_gets i1 1 (i2 - i2 / 10 * 10) M4 (fun M6 => wp_X8_becomes (11 + (7 * i1)) (i2 / 10) M6 (fun r7 M7 => K r7 M7))) ∧ (r4 = 0 → wp_X8_errs (-1000000001) M4 (fun r8 M8 => K r8 M8)))))
set_option maxRecDepth 100000 in
def wp_X8_above (i0 : Int32) (M : Mem) (K : Int32 → Mem → Prop) : Prop := (¬ i0 = 0 → (i0 ≤ 3 → K 0 M) ∧ (¬ i0 ≤ 3 → K (i0 - 3) M)) ∧ (i0 = 0 → K (-1) M)
set_option maxRecDepth 100000 in
def wp_X8_as_l32 (K : Int32 → Mem → Prop) (i1 : Int32) (i2 : Int32) (B32 : Int32 → Mem → Prop) (i3 : Int32) (Mb : Mem) : Prop := (i3 < 0 → (0 ≤ i3 → wp_X8_its i1 1 Mb (fun r3203 M3203 => K r3203 M3203)) ∧ (¬ 0 ≤ i3 → wp_X8_errs (-1000000005) Mb (fun r3204 M3204 => K r3204 M3204))) ∧ (¬ i3 < 0 → (i3 = i2 → (0 ≤ i3 → wp_X8_its i1 1 Mb (fun r3207 M3207 => K r3207 M3207)) ∧ (¬ 0 ≤ i3 → wp_X8_errs (-1000000005) Mb (fun r3208 M3208 => K r3208 M3208))) ∧ (¬ i3 = i2 → wp_X8_above i3 Mb (fun r3209 M3209 => B32 r3209 M3209)))
set_option maxRecDepth 100000 in
def wp_X8_as_L32 (K : Int32 → Mem → Prop) (i1 : Int32) (i2 : Int32) : Nat → Int32 → Mem → Prop
  | 0 => fun _ _ => False
  | n + 1 => wp_X8_as_l32 K i1 i2 (wp_X8_as_L32 K i1 i2 n)
set_option maxRecDepth 100000 in
def wp_X8_as (i1 : Int32) (i2 : Int32) (M : Mem) (K : Int32 → Mem → Prop) : Prop := wp_X8_isQuarrel i1 M (fun r1 M1 => (r1 = 0 → wp_X8_errs (-1000000001) M1 (fun r3 M3 => K r3 M3)) ∧ (¬ r1 = 0 → wp_X8_in i2 0 6 M1 (fun r4 M4 => (¬ r4 = 0 → wp_X8_its i1 0 M4 (fun r6 M6 => ∃ n, wp_X8_as_L32 K i1 i2 n r6 M6)) ∧ (r4 = 0 → wp_X8_errs (-1000000001) M4 (fun r7 M7 => K r7 M7)))))
set_option maxRecDepth 100000 in
def wp_X8_byteAt (i1 : Int32) (M : Mem) (K : Int32 → Mem → Prop) : Prop := ((M 79 8) ≤ i1 → K (-1) M) ∧ (¬ (M 79 8) ≤ i1 → vp_in (74 + i1) 244 ∧ (K (M 80 (74 + i1).toNatClampNeg) M))
set_option maxRecDepth 100000 in
def wp_X8_isDigit (i0 : Int32) (M : Mem) (K : Int32 → Mem → Prop) : Prop := wp_X8_in i0 48 57 M (fun r1 M1 => (r1 = 0 ∨ r1 = 1) ∧ (K r1 M1))
set_option maxRecDepth 100000 in
def wp_X8_adds (i1 : Int32) (M : Mem) (K : Mem → Prop) : Prop := ((M 79 11) = 0 → K M) ∧ (¬ (M 79 11) = 0 → vp_in (M 79 10) 50 ∧ (K (up (up M 84 (M 79 10).toNatClampNeg i1) 79 10 (((up M 84 (M 79 10).toNatClampNeg i1) 79 10) + 1))))
set_option maxRecDepth 100000 in
def wp_X8_number_l4 (K : Mem → Prop) (B4 : Int32 → Int32 → Mem → Prop) (i1 : Int32) (i2 : Int32) (Mb : Mem) : Prop := (4 ≤ i2 → wp_X8_adds i1 Mb (fun M402 => K M402)) ∧ (¬ 4 ≤ i2 → wp_X8_byteAt (Mb 79 7) Mb (fun r403 M403 => wp_X8_isDigit r403 M403 (fun r404 M404 => (r404 = 0 → wp_X8_adds i1 M404 (fun M406 => K M406)) ∧ (¬ r404 = 0 → wp_X8_byteAt (M404 79 7) M404 (fun r407 M407 => B4 (((10 * i1) + r407) - 48) (i2 + 1) (up M407 79 7 ((M407 79 7) + 1)))))))
set_option maxRecDepth 100000 in
def wp_X8_number_L4 (K : Mem → Prop) : Nat → Int32 → Int32 → Mem → Prop
  | 0 => fun _ _ _ => False
  | n + 1 => wp_X8_number_l4 K (wp_X8_number_L4 K n)
set_option maxRecDepth 100000 in
def wp_X8_number (M : Mem) (K : Mem → Prop) : Prop := ∃ n, wp_X8_number_L4 K  n 0 0 M
set_option maxRecDepth 100000 in
def wp_X8_named_b68 (K : Mem → Prop) (i2 : Int32) (i3 : Int32) (t0 : Int32) (Mb : Mem) : Prop := BoolOK t0 ∧ ((((up Mb 79 11 t0) 79 11) = 0 → K (up Mb 79 11 t0)) ∧ (¬ ((up Mb 79 11 t0) 79 11) = 0 → (i2 = 0 → (i3 = 0 → wp_X8_adds 10002 (up (up Mb 79 11 t0) 79 7 (((up Mb 79 11 t0) 79 7) + 1)) (fun M6805 => K M6805)) ∧ (¬ i3 = 0 → wp_X8_adds 10001 (up (up Mb 79 11 t0) 79 7 (((up Mb 79 11 t0) 79 7) + 1)) (fun M6806 => K M6806))) ∧ (¬ i2 = 0 → wp_X8_adds 10000 (up (up Mb 79 11 t0) 79 7 (((up Mb 79 11 t0) 79 7) + 1)) (fun M6807 => K M6807))))
set_option maxRecDepth 100000 in
def wp_X8_named_b39 (K : Mem → Prop) (i2 : Int32) (i3 : Int32) (t0 : Int32) (t1 : Int32) (Mb : Mem) : Prop := (¬ t1 = t0 → (¬ i2 = 0 → wp_X8_named_b68 K i2 i3 1 Mb) ∧ (i2 = 0 → (¬ i3 = 0 → wp_X8_named_b68 K i2 i3 1 Mb) ∧ (i3 = 0 → wp_X8_named_b68 K i2 i3 0 Mb))) ∧ (t1 = t0 → (¬ i2 = 0 → wp_X8_named_b68 K i2 i3 1 Mb) ∧ (i2 = 0 → (¬ i3 = 0 → wp_X8_named_b68 K i2 i3 1 Mb) ∧ (i3 = 0 → wp_X8_named_b68 K i2 i3 1 Mb)))
set_option maxRecDepth 100000 in
def wp_X8_named_b11 (K : Mem → Prop) (i1 : Int32) (t0 : Int32) (Mb : Mem) : Prop := (¬ i1 = 97 → (¬ (Mb 79 6) = 0 → wp_X8_named_b39 K t0 0 109 i1 Mb) ∧ ((Mb 79 6) = 0 → wp_X8_named_b39 K t0 0 100 i1 Mb)) ∧ (i1 = 97 → (¬ (Mb 79 6) = 0 → wp_X8_named_b39 K t0 1 109 i1 Mb) ∧ ((Mb 79 6) = 0 → wp_X8_named_b39 K t0 1 100 i1 Mb))
set_option maxRecDepth 100000 in
def wp_X8_named (i1 : Int32) (M : Mem) (K : Mem → Prop) : Prop := (¬ i1 = 101 → wp_X8_named_b11 K i1 0 M) ∧ (i1 = 101 → wp_X8_named_b11 K i1 1 M)
set_option maxRecDepth 100000 in
def wp_X8_factor_b129 (R0 : Mem → (Mem → Prop) → Prop) (R1 : Mem → (Mem → Prop) → Prop) (R2 : Mem → (Mem → Prop) → Prop) (R3 : Mem → (Mem → Prop) → Prop) (R4 : Mem → (Mem → Prop) → Prop) (R5 : Mem → (Mem → Prop) → Prop) (K : Mem → Prop) (t0 : Int32) (Mb : Mem) : Prop := BoolOK t0 ∧ ((((up Mb 79 11 t0) 79 11) = 0 → (∀ Mg_12903 : Mem, Mg_12903 = (up (up (up Mb 79 11 t0) 79 7 (((up Mb 79 11 t0) 79 7) + 0)) 79 9 (((up (up Mb 79 11 t0) 79 7 (((up Mb 79 11 t0) 79 7) + 0)) 79 9) - 1)) → K Mg_12903)) ∧ (¬ ((up Mb 79 11 t0) 79 11) = 0 → (∀ Mg_12904 : Mem, Mg_12904 = (up (up (up Mb 79 11 t0) 79 7 (((up Mb 79 11 t0) 79 7) + 1)) 79 9 (((up (up Mb 79 11 t0) 79 7 (((up Mb 79 11 t0) 79 7) + 1)) 79 9) - 1)) → K Mg_12904)))
set_option maxRecDepth 100000 in
def wp_X8_factor_b43 (R0 : Mem → (Mem → Prop) → Prop) (R1 : Mem → (Mem → Prop) → Prop) (R2 : Mem → (Mem → Prop) → Prop) (R3 : Mem → (Mem → Prop) → Prop) (R4 : Mem → (Mem → Prop) → Prop) (R5 : Mem → (Mem → Prop) → Prop) (K : Mem → Prop) (i1 : Int32) (Mb : Mem) : Prop := (¬ (Mb 79 9) = 5 → (¬ i1 = 33 → R5  (up (up Mb 79 9 ((Mb 79 9) + 1)) 79 7 (((up Mb 79 9 ((Mb 79 9) + 1)) 79 7) + 1)) (fun M4303 => ((M4303 79 11) = 0 → wp_X8_factor_b129 R0 R1 R2 R3 R4 R5 K 0 M4303) ∧ (¬ (M4303 79 11) = 0 → wp_X8_byteAt (M4303 79 7) M4303 (fun r4305 M4305 => (¬ r4305 = 41 → wp_X8_factor_b129 R0 R1 R2 R3 R4 R5 K 0 M4305) ∧ (r4305 = 41 → wp_X8_factor_b129 R0 R1 R2 R3 R4 R5 K 1 M4305))))) ∧ (i1 = 33 → R0  (up (up Mb 79 9 ((Mb 79 9) + 1)) 79 7 (((up Mb 79 9 ((Mb 79 9) + 1)) 79 7) + 1)) (fun M4307 => wp_X8_adds 20033 M4307 (fun M4308 => K (up M4308 79 9 ((M4308 79 9) - 1)))))) ∧ ((Mb 79 9) = 5 → K (up Mb 79 11 0))
set_option maxRecDepth 100000 in
def wpb_X8_factor (R0 : Mem → (Mem → Prop) → Prop) (R1 : Mem → (Mem → Prop) → Prop) (R2 : Mem → (Mem → Prop) → Prop) (R3 : Mem → (Mem → Prop) → Prop) (R4 : Mem → (Mem → Prop) → Prop) (R5 : Mem → (Mem → Prop) → Prop) (M : Mem) (K : Mem → Prop) : Prop := wp_X8_byteAt (M 79 7) M (fun r1 M1 => wp_X8_isDigit r1 M1 (fun r2 M2 => (r2 = 0 → (r1 = 33 → wp_X8_factor_b43 R0 R1 R2 R3 R4 R5 K r1 M2) ∧ (¬ r1 = 33 → (r1 = 40 → wp_X8_factor_b43 R0 R1 R2 R3 R4 R5 K r1 M2) ∧ (¬ r1 = 40 → wp_X8_named r1 M2 (fun M6 => K M6)))) ∧ (¬ r2 = 0 → wp_X8_number  M2 (fun M7 => K M7))))
set_option maxRecDepth 100000 in
def wp_X8_product_l4 (R0 : Mem → (Mem → Prop) → Prop) (R1 : Mem → (Mem → Prop) → Prop) (R2 : Mem → (Mem → Prop) → Prop) (R3 : Mem → (Mem → Prop) → Prop) (R4 : Mem → (Mem → Prop) → Prop) (R5 : Mem → (Mem → Prop) → Prop) (K : Mem → Prop) (B4 : Mem → Prop) (Mb : Mem) : Prop := ((Mb 79 11) = 0 → K Mb) ∧ (¬ (Mb 79 11) = 0 → wp_X8_byteAt (Mb 79 7) Mb (fun r402 M402 => (r402 = 42 → wp_X8_byteAt (M402 79 7) M402 (fun r404 M404 => R0  (up M404 79 7 ((M404 79 7) + 1)) (fun M405 => wp_X8_adds (20000 + r404) M405 (fun M406 => B4  M406)))) ∧ (¬ r402 = 42 → wp_X8_byteAt (M402 79 7) M402 (fun r407 M407 => (r407 = 47 → wp_X8_byteAt (M407 79 7) M407 (fun r409 M409 => R0  (up M409 79 7 ((M409 79 7) + 1)) (fun M410 => wp_X8_adds (20000 + r409) M410 (fun M411 => B4  M411)))) ∧ (¬ r407 = 47 → wp_X8_byteAt (M407 79 7) M407 (fun r412 M412 => (¬ r412 = 37 → K M412) ∧ (r412 = 37 → wp_X8_byteAt (M412 79 7) M412 (fun r414 M414 => R0  (up M414 79 7 ((M414 79 7) + 1)) (fun M415 => wp_X8_adds (20000 + r414) M415 (fun M416 => B4  M416))))))))))
set_option maxRecDepth 100000 in
def wp_X8_product_L4 (R0 : Mem → (Mem → Prop) → Prop) (R1 : Mem → (Mem → Prop) → Prop) (R2 : Mem → (Mem → Prop) → Prop) (R3 : Mem → (Mem → Prop) → Prop) (R4 : Mem → (Mem → Prop) → Prop) (R5 : Mem → (Mem → Prop) → Prop) (K : Mem → Prop) : Nat → Mem → Prop
  | 0 => fun _ => False
  | n + 1 => wp_X8_product_l4 R0 R1 R2 R3 R4 R5 K (wp_X8_product_L4 R0 R1 R2 R3 R4 R5 K n)
set_option maxRecDepth 100000 in
def wpb_X8_product (R0 : Mem → (Mem → Prop) → Prop) (R1 : Mem → (Mem → Prop) → Prop) (R2 : Mem → (Mem → Prop) → Prop) (R3 : Mem → (Mem → Prop) → Prop) (R4 : Mem → (Mem → Prop) → Prop) (R5 : Mem → (Mem → Prop) → Prop) (M : Mem) (K : Mem → Prop) : Prop := R0  M (fun M1 => ∃ n, wp_X8_product_L4 R0 R1 R2 R3 R4 R5 K  n  M1)
set_option maxRecDepth 100000 in
def wp_X8_sum_l4 (R0 : Mem → (Mem → Prop) → Prop) (R1 : Mem → (Mem → Prop) → Prop) (R2 : Mem → (Mem → Prop) → Prop) (R3 : Mem → (Mem → Prop) → Prop) (R4 : Mem → (Mem → Prop) → Prop) (R5 : Mem → (Mem → Prop) → Prop) (K : Mem → Prop) (B4 : Mem → Prop) (Mb : Mem) : Prop := ((Mb 79 11) = 0 → K Mb) ∧ (¬ (Mb 79 11) = 0 → wp_X8_byteAt (Mb 79 7) Mb (fun r402 M402 => (r402 = 43 → wp_X8_byteAt (M402 79 7) M402 (fun r404 M404 => R1  (up M404 79 7 ((M404 79 7) + 1)) (fun M405 => wp_X8_adds (20000 + r404) M405 (fun M406 => B4  M406)))) ∧ (¬ r402 = 43 → wp_X8_byteAt (M402 79 7) M402 (fun r407 M407 => (¬ r407 = 45 → K M407) ∧ (r407 = 45 → wp_X8_byteAt (M407 79 7) M407 (fun r409 M409 => R1  (up M409 79 7 ((M409 79 7) + 1)) (fun M410 => wp_X8_adds (20000 + r409) M410 (fun M411 => B4  M411))))))))
set_option maxRecDepth 100000 in
def wp_X8_sum_L4 (R0 : Mem → (Mem → Prop) → Prop) (R1 : Mem → (Mem → Prop) → Prop) (R2 : Mem → (Mem → Prop) → Prop) (R3 : Mem → (Mem → Prop) → Prop) (R4 : Mem → (Mem → Prop) → Prop) (R5 : Mem → (Mem → Prop) → Prop) (K : Mem → Prop) : Nat → Mem → Prop
  | 0 => fun _ => False
  | n + 1 => wp_X8_sum_l4 R0 R1 R2 R3 R4 R5 K (wp_X8_sum_L4 R0 R1 R2 R3 R4 R5 K n)
set_option maxRecDepth 100000 in
def wpb_X8_sum (R0 : Mem → (Mem → Prop) → Prop) (R1 : Mem → (Mem → Prop) → Prop) (R2 : Mem → (Mem → Prop) → Prop) (R3 : Mem → (Mem → Prop) → Prop) (R4 : Mem → (Mem → Prop) → Prop) (R5 : Mem → (Mem → Prop) → Prop) (M : Mem) (K : Mem → Prop) : Prop := R1  M (fun M1 => ∃ n, wp_X8_sum_L4 R0 R1 R2 R3 R4 R5 K  n  M1)
set_option maxRecDepth 100000 in
def wp_X8_compared_b23 (R0 : Mem → (Mem → Prop) → Prop) (R1 : Mem → (Mem → Prop) → Prop) (R2 : Mem → (Mem → Prop) → Prop) (R3 : Mem → (Mem → Prop) → Prop) (R4 : Mem → (Mem → Prop) → Prop) (R5 : Mem → (Mem → Prop) → Prop) (K : Mem → Prop) (t0 : Int32) (Mb : Mem) : Prop := (t0 = 60 → R2  (up Mb 79 7 ((Mb 79 7) + 1)) (fun M2302 => wp_X8_adds (20000 + t0) M2302 (fun M2303 => K M2303))) ∧ (¬ t0 = 60 → (t0 = 61 → R2  (up Mb 79 7 ((Mb 79 7) + 1)) (fun M2305 => wp_X8_adds (20000 + t0) M2305 (fun M2306 => K M2306))) ∧ (¬ t0 = 61 → (¬ t0 = 62 → K Mb) ∧ (t0 = 62 → R2  (up Mb 79 7 ((Mb 79 7) + 1)) (fun M2308 => wp_X8_adds (20000 + t0) M2308 (fun M2309 => K M2309)))))
set_option maxRecDepth 100000 in
def wpb_X8_compared (R0 : Mem → (Mem → Prop) → Prop) (R1 : Mem → (Mem → Prop) → Prop) (R2 : Mem → (Mem → Prop) → Prop) (R3 : Mem → (Mem → Prop) → Prop) (R4 : Mem → (Mem → Prop) → Prop) (R5 : Mem → (Mem → Prop) → Prop) (M : Mem) (K : Mem → Prop) : Prop := R2  M (fun M1 => ((M1 79 11) = 0 → wp_X8_compared_b23 R0 R1 R2 R3 R4 R5 K (-1) M1) ∧ (¬ (M1 79 11) = 0 → wp_X8_byteAt (M1 79 7) M1 (fun r3 M3 => wp_X8_compared_b23 R0 R1 R2 R3 R4 R5 K r3 M3)))
set_option maxRecDepth 100000 in
def wp_X8_both_l4 (R0 : Mem → (Mem → Prop) → Prop) (R1 : Mem → (Mem → Prop) → Prop) (R2 : Mem → (Mem → Prop) → Prop) (R3 : Mem → (Mem → Prop) → Prop) (R4 : Mem → (Mem → Prop) → Prop) (R5 : Mem → (Mem → Prop) → Prop) (K : Mem → Prop) (B4 : Mem → Prop) (Mb : Mem) : Prop := ((Mb 79 11) = 0 → K Mb) ∧ (¬ (Mb 79 11) = 0 → wp_X8_byteAt (Mb 79 7) Mb (fun r402 M402 => (¬ r402 = 38 → K M402) ∧ (r402 = 38 → R3  (up M402 79 7 ((M402 79 7) + 1)) (fun M404 => wp_X8_adds 20038 M404 (fun M405 => B4  M405)))))
set_option maxRecDepth 100000 in
def wp_X8_both_L4 (R0 : Mem → (Mem → Prop) → Prop) (R1 : Mem → (Mem → Prop) → Prop) (R2 : Mem → (Mem → Prop) → Prop) (R3 : Mem → (Mem → Prop) → Prop) (R4 : Mem → (Mem → Prop) → Prop) (R5 : Mem → (Mem → Prop) → Prop) (K : Mem → Prop) : Nat → Mem → Prop
  | 0 => fun _ => False
  | n + 1 => wp_X8_both_l4 R0 R1 R2 R3 R4 R5 K (wp_X8_both_L4 R0 R1 R2 R3 R4 R5 K n)
set_option maxRecDepth 100000 in
def wpb_X8_both (R0 : Mem → (Mem → Prop) → Prop) (R1 : Mem → (Mem → Prop) → Prop) (R2 : Mem → (Mem → Prop) → Prop) (R3 : Mem → (Mem → Prop) → Prop) (R4 : Mem → (Mem → Prop) → Prop) (R5 : Mem → (Mem → Prop) → Prop) (M : Mem) (K : Mem → Prop) : Prop := R3  M (fun M1 => ∃ n, wp_X8_both_L4 R0 R1 R2 R3 R4 R5 K  n  M1)
set_option maxRecDepth 100000 in
def wp_X8_whole_l4 (R0 : Mem → (Mem → Prop) → Prop) (R1 : Mem → (Mem → Prop) → Prop) (R2 : Mem → (Mem → Prop) → Prop) (R3 : Mem → (Mem → Prop) → Prop) (R4 : Mem → (Mem → Prop) → Prop) (R5 : Mem → (Mem → Prop) → Prop) (K : Mem → Prop) (B4 : Mem → Prop) (Mb : Mem) : Prop := ((Mb 79 11) = 0 → K Mb) ∧ (¬ (Mb 79 11) = 0 → wp_X8_byteAt (Mb 79 7) Mb (fun r402 M402 => (¬ r402 = 124 → K M402) ∧ (r402 = 124 → R4  (up M402 79 7 ((M402 79 7) + 1)) (fun M404 => wp_X8_adds 20124 M404 (fun M405 => B4  M405)))))
set_option maxRecDepth 100000 in
def wp_X8_whole_L4 (R0 : Mem → (Mem → Prop) → Prop) (R1 : Mem → (Mem → Prop) → Prop) (R2 : Mem → (Mem → Prop) → Prop) (R3 : Mem → (Mem → Prop) → Prop) (R4 : Mem → (Mem → Prop) → Prop) (R5 : Mem → (Mem → Prop) → Prop) (K : Mem → Prop) : Nat → Mem → Prop
  | 0 => fun _ => False
  | n + 1 => wp_X8_whole_l4 R0 R1 R2 R3 R4 R5 K (wp_X8_whole_L4 R0 R1 R2 R3 R4 R5 K n)
set_option maxRecDepth 100000 in
def wpb_X8_whole (R0 : Mem → (Mem → Prop) → Prop) (R1 : Mem → (Mem → Prop) → Prop) (R2 : Mem → (Mem → Prop) → Prop) (R3 : Mem → (Mem → Prop) → Prop) (R4 : Mem → (Mem → Prop) → Prop) (R5 : Mem → (Mem → Prop) → Prop) (M : Mem) (K : Mem → Prop) : Prop := R4  M (fun M1 => ∃ n, wp_X8_whole_L4 R0 R1 R2 R3 R4 R5 K  n  M1)
def wpG_X8_factor : Nat → (Mem → (Mem → Prop) → Prop) × (Mem → (Mem → Prop) → Prop) × (Mem → (Mem → Prop) → Prop) × (Mem → (Mem → Prop) → Prop) × (Mem → (Mem → Prop) → Prop) × (Mem → (Mem → Prop) → Prop)
  | 0 => (fun _ _ => False, fun _ _ => False, fun _ _ => False, fun _ _ => False, fun _ _ => False, fun _ _ => False)
  | n + 1 => (wpb_X8_factor (wpG_X8_factor n).1 (wpG_X8_factor n).2.1 (wpG_X8_factor n).2.2.1 (wpG_X8_factor n).2.2.2.1 (wpG_X8_factor n).2.2.2.2.1 (wpG_X8_factor n).2.2.2.2.2, wpb_X8_product (wpG_X8_factor n).1 (wpG_X8_factor n).2.1 (wpG_X8_factor n).2.2.1 (wpG_X8_factor n).2.2.2.1 (wpG_X8_factor n).2.2.2.2.1 (wpG_X8_factor n).2.2.2.2.2, wpb_X8_sum (wpG_X8_factor n).1 (wpG_X8_factor n).2.1 (wpG_X8_factor n).2.2.1 (wpG_X8_factor n).2.2.2.1 (wpG_X8_factor n).2.2.2.2.1 (wpG_X8_factor n).2.2.2.2.2, wpb_X8_compared (wpG_X8_factor n).1 (wpG_X8_factor n).2.1 (wpG_X8_factor n).2.2.1 (wpG_X8_factor n).2.2.2.1 (wpG_X8_factor n).2.2.2.2.1 (wpG_X8_factor n).2.2.2.2.2, wpb_X8_both (wpG_X8_factor n).1 (wpG_X8_factor n).2.1 (wpG_X8_factor n).2.2.1 (wpG_X8_factor n).2.2.2.1 (wpG_X8_factor n).2.2.2.2.1 (wpG_X8_factor n).2.2.2.2.2, wpb_X8_whole (wpG_X8_factor n).1 (wpG_X8_factor n).2.1 (wpG_X8_factor n).2.2.1 (wpG_X8_factor n).2.2.2.1 (wpG_X8_factor n).2.2.2.2.1 (wpG_X8_factor n).2.2.2.2.2)
abbrev wp_X8_factor (n : Nat) : Mem → (Mem → Prop) → Prop := (wpG_X8_factor n).1
abbrev wp_X8_product (n : Nat) : Mem → (Mem → Prop) → Prop := (wpG_X8_factor n).2.1
abbrev wp_X8_sum (n : Nat) : Mem → (Mem → Prop) → Prop := (wpG_X8_factor n).2.2.1
abbrev wp_X8_compared (n : Nat) : Mem → (Mem → Prop) → Prop := (wpG_X8_factor n).2.2.2.1
abbrev wp_X8_both (n : Nat) : Mem → (Mem → Prop) → Prop := (wpG_X8_factor n).2.2.2.2.1
abbrev wp_X8_whole (n : Nat) : Mem → (Mem → Prop) → Prop := (wpG_X8_factor n).2.2.2.2.2
set_option maxRecDepth 100000 in
def wp_X8_law (i1 : Int32) (i2 : Int32) (i3 : Int32) (i4 : Int32) (M : Mem) (K : Int32 → Mem → Prop) : Prop := wp_X8_in i1 0 1 M (fun r1 M1 => (r1 = 0 → wp_X8_errs (-1000000001) M1 (fun r3 M3 => K r3 M3)) ∧ (¬ r1 = 0 → wp_X8_lawOf i1 i2 i3 i4 M1 (fun r4 M4 => K r4 M4)))
set_option maxRecDepth 100000 in
def wp_X8_feed_l40 (K : Int32 → Mem → Prop) (w1 : Int64) (i3 : Int32) (B40 : Int32 → Mem → Prop) (i4 : Int32) (Mb : Mem) : Prop := (i3 ≤ i4 → K (Mb 80 3) Mb) ∧ (¬ i3 ≤ i4 → vp_in (74 + (Mb 80 3)) 244 ∧ ((∀ Mg_4003 : Mem, Mg_4003 = (up (up Mb 80 (74 + (Mb 80 3)).toNatClampNeg (((w1 >>> ((8 * i4).toInt64 &&& 63)) &&& 255).toInt32)) 80 3 (((up Mb 80 (74 + (Mb 80 3)).toNatClampNeg (((w1 >>> ((8 * i4).toInt64 &&& 63)) &&& 255).toInt32)) 80 3) + 1)) → B40 (i4 + 1) Mg_4003)))
set_option maxRecDepth 100000 in
def wp_X8_feed_L40 (K : Int32 → Mem → Prop) (w1 : Int64) (i3 : Int32) : Nat → Int32 → Mem → Prop
  | 0 => fun _ _ => False
  | n + 1 => wp_X8_feed_l40 K w1 i3 (wp_X8_feed_L40 K w1 i3 n)
set_option maxRecDepth 100000 in
def wp_X8_feed (w1 : Int64) (i3 : Int32) (M : Mem) (K : Int32 → Mem → Prop) : Prop := wp_X8_in i3 1 8 M (fun r1 M1 => (¬ r1 = 0 → (((M1 80 3) + i3) ≤ 50 → ∃ n, wp_X8_feed_L40 K w1 i3 n 0 M1) ∧ (¬ ((M1 80 3) + i3) ≤ 50 → wp_X8_errs (-1000000004) M1 (fun r4 M4 => K r4 M4))) ∧ (r1 = 0 → wp_X8_errs (-1000000001) M1 (fun r5 M5 => K r5 M5)))
set_option maxRecDepth 100000 in
def wp_X8_text_l118 (K : Int32 → Mem → Prop) (i1 : Int32) (B118 : Int32 → Mem → Prop) (i2 : Int32) (Mb : Mem) : Prop := ((Mb 79 10) ≤ i2 → K 1 Mb) ∧ (¬ (Mb 79 10) ≤ i2 → vp_in i2 50 ∧ (vp_in ((144 + (50 * i1)) + i2) 244 ∧ (B118 (i2 + 1) (up Mb 80 ((144 + (50 * i1)) + i2).toNatClampNeg (Mb 84 i2.toNatClampNeg)))))
set_option maxRecDepth 100000 in
def wp_X8_text_L118 (K : Int32 → Mem → Prop) (i1 : Int32) : Nat → Int32 → Mem → Prop
  | 0 => fun _ _ => False
  | n + 1 => wp_X8_text_l118 K i1 (wp_X8_text_L118 K i1 n)
set_option maxRecDepth 100000 in
def wp_X8_text (i1 : Int32) (M : Mem) (K : Int32 → Mem → Prop) : Prop := wp_X8_in i1 0 1 M (fun r1 M1 => (¬ r1 = 0 → wp_X8_whole 64  (up (up (up (up (up (up M1 79 6 i1) 79 7 0) 79 8 ((up (up M1 79 6 i1) 79 7 0) 80 3)) 79 9 0) 79 10 0) 79 11 1) (fun M3 => ((M3 79 11) = 0 → (¬ ((up (up M3 79 11 0) 80 3 0) 79 11) = 0 → vp_in (5 + i1) 244 ∧ (∃ n, wp_X8_text_L118 K i1 n 0 (up (up (up M3 79 11 0) 80 3 0) 80 (5 + i1).toNatClampNeg ((up (up M3 79 11 0) 80 3 0) 79 10)))) ∧ (((up (up M3 79 11 0) 80 3 0) 79 11) = 0 → K ((-10) - ((up (up M3 79 11 0) 80 3 0) 79 7)) (up (up M3 79 11 0) 80 3 0))) ∧ (¬ (M3 79 11) = 0 → (¬ (M3 79 7) = (M3 79 8) → (¬ ((up (up M3 79 11 0) 80 3 0) 79 11) = 0 → vp_in (5 + i1) 244 ∧ (∃ n, wp_X8_text_L118 K i1 n 0 (up (up (up M3 79 11 0) 80 3 0) 80 (5 + i1).toNatClampNeg ((up (up M3 79 11 0) 80 3 0) 79 10)))) ∧ (((up (up M3 79 11 0) 80 3 0) 79 11) = 0 → K ((-10) - ((up (up M3 79 11 0) 80 3 0) 79 7)) (up (up M3 79 11 0) 80 3 0))) ∧ ((M3 79 7) = (M3 79 8) → (¬ ((up (up M3 79 11 1) 80 3 0) 79 11) = 0 → vp_in (5 + i1) 244 ∧ (∃ n, wp_X8_text_L118 K i1 n 0 (up (up (up M3 79 11 1) 80 3 0) 80 (5 + i1).toNatClampNeg ((up (up M3 79 11 1) 80 3 0) 79 10)))) ∧ (((up (up M3 79 11 1) 80 3 0) 79 11) = 0 → K ((-10) - ((up (up M3 79 11 1) 80 3 0) 79 7)) (up (up M3 79 11 1) 80 3 0)))))) ∧ (r1 = 0 → wp_X8_errs (-1000000001) M1 (fun r12 M12 => K r12 M12)))
set_option maxRecDepth 100000 in
def wp_X8_isOver (i1 : Int32) (M : Mem) (K : Int32 → Mem → Prop) : Prop := wp_X8_its i1 5 M (fun r1 M1 => (¬ r1 = 1 → K 0 M1) ∧ (r1 = 1 → K 1 M1))
set_option maxRecDepth 100000 in
def wp_X8_isLoose (i1 : Int32) (M : Mem) (K : Int32 → Mem → Prop) : Prop := wp_X8_its i1 4 M (fun r1 M1 => (r1 < 0 → K 1 M1) ∧ (¬ r1 < 0 → wp_X8_its i1 4 M1 (fun r3 M3 => wp_X8_isOver r3 M3 (fun r4 M4 => (r4 = 0 → K 0 M4) ∧ (¬ r4 = 0 → K 1 M4)))))
set_option maxRecDepth 100000 in
def wp_X8_grindsAll_l2 (K : Mem → Prop) (B2 : Int32 → Mem → Prop) (i1 : Int32) (Mb : Mem) : Prop := ((Mb 80 2) ≤ i1 → K Mb) ∧ (¬ (Mb 80 2) ≤ i1 → wp_X8_isOver i1 Mb (fun r202 M202 => (¬ r202 = 0 → B2 (i1 + 1) M202) ∧ (r202 = 0 → wp_X8_its i1 2 M202 (fun r204 M204 => (¬ r204 = (M204 80 7) → B2 (i1 + 1) M204) ∧ (r204 = (M204 80 7) → wp_X8_its i1 3 M204 (fun r206 M206 => wp_X8_gains i1 M206 (fun r207 M207 => wp_X8_held (r206 + r207) 0 99 M207 (fun r208 M208 => wp_X8_gets i1 3 r208 M208 (fun M209 => wp_X8_held ((M209 80 10) + 3) 0 99999 M209 (fun r210 M210 => B2 (i1 + 1) (up M210 80 10 r210)))))))))))
set_option maxRecDepth 100000 in
def wp_X8_grindsAll_L2 (K : Mem → Prop) : Nat → Int32 → Mem → Prop
  | 0 => fun _ _ => False
  | n + 1 => wp_X8_grindsAll_l2 K (wp_X8_grindsAll_L2 K n)
set_option maxRecDepth 100000 in
def wp_X8_grindsAll (M : Mem) (K : Mem → Prop) : Prop := ∃ n, wp_X8_grindsAll_L2 K  n 0 M
set_option maxRecDepth 100000 in
def wp_X8_goesOn_b32 (K : Mem → Prop) (i1 : Int32) (Mb : Mem) : Prop := wp_X8_its i1 3 Mb (fun r3201 M3201 => wp_X8_its i1 6 M3201 (fun r3202 M3202 => wp_X8_its i1 1 M3202 (fun r3203 M3203 => wp_X8_lawOf 1 r3201 r3202 r3203 M3203 (fun r3204 M3204 => wp_X8_held ((Mb 80 9) + r3204) 0 99999 M3204 (fun r3205 M3205 => wp_X8_its i1 3 (up M3205 80 9 r3205) (fun r3206 M3206 => wp_X8_dulls i1 M3206 (fun r3207 M3207 => wp_X8_held (r3206 - r3207) 0 99 M3207 (fun r3208 M3208 => wp_X8_gets i1 3 r3208 M3208 (fun M3209 => wp_X8_its i1 6 M3209 (fun r3210 M3210 => wp_X8_held (r3210 + 1) 0 999 M3210 (fun r3211 M3211 => wp_X8_gets i1 6 r3211 M3211 (fun M3212 => K M3212))))))))))))
set_option maxRecDepth 100000 in
def wp_X8_goesOn (i1 : Int32) (M : Mem) (K : Mem → Prop) : Prop := wp_X8_its i1 3 M (fun r1 M1 => wp_X8_needs i1 M1 (fun r2 M2 => (r1 < r2 → wp_X8_goesOn_b32 K i1 M2) ∧ (¬ r1 < r2 → wp_X8_isLoose i1 M2 (fun r4 M4 => (r4 = 0 → wp_X8_goesOn_b32 K i1 M4) ∧ (¬ r4 = 0 → wp_X8_gets i1 5 1 M4 (fun M6 => K M6))))))
set_option maxRecDepth 100000 in
def wp_X8_oneDay_l10 (K : Mem → Prop) (B10 : Int32 → Mem → Prop) (i2 : Int32) (Mb : Mem) : Prop := ((Mb 80 2) ≤ i2 → (∀ Mg_1002 : Mem, Mg_1002 = (up (up Mb 80 7 (((Mb 80 7) + (Mb 80 8)) - ((Mb 80 7) + (Mb 80 8)) / 10 * 10)) 80 0 (((up Mb 80 7 (((Mb 80 7) + (Mb 80 8)) - ((Mb 80 7) + (Mb 80 8)) / 10 * 10)) 80 0) + 1)) → K Mg_1002)) ∧ (¬ (Mb 80 2) ≤ i2 → wp_X8_isOver i2 Mb (fun r1003 M1003 => (¬ r1003 = 0 → B10 (i2 + 1) M1003) ∧ (r1003 = 0 → wp_X8_goesOn i2 M1003 (fun M1005 => B10 (i2 + 1) M1005))))
set_option maxRecDepth 100000 in
def wp_X8_oneDay_L10 (K : Mem → Prop) : Nat → Int32 → Mem → Prop
  | 0 => fun _ _ => False
  | n + 1 => wp_X8_oneDay_l10 K (wp_X8_oneDay_L10 K n)
set_option maxRecDepth 100000 in
def wp_X8_oneDay (i1 : Int32) (M : Mem) (K : Mem → Prop) : Prop := (i1 = 0 → ∃ n, wp_X8_oneDay_L10 K  n 0 M) ∧ (¬ i1 = 0 → wp_X8_grindsAll  M (fun M2 => ∃ n, wp_X8_oneDay_L10 K  n 0 M2))
set_option maxRecDepth 100000 in
def wp_X8_passes_l2 (K : Mem → Prop) (i1 : Int32) (B2 : Int32 → Mem → Prop) (i2 : Int32) (Mb : Mem) : Prop := (i1 ≤ i2 → K Mb) ∧ (¬ i1 ≤ i2 → wp_X8_oneDay 1 Mb (fun M202 => B2 (i2 + 1) M202))
set_option maxRecDepth 100000 in
def wp_X8_passes_L2 (K : Mem → Prop) (i1 : Int32) : Nat → Int32 → Mem → Prop
  | 0 => fun _ _ => False
  | n + 1 => wp_X8_passes_l2 K i1 (wp_X8_passes_L2 K i1 n)
set_option maxRecDepth 100000 in
def wp_X8_passes (i1 : Int32) (M : Mem) (K : Mem → Prop) : Prop := ∃ n, wp_X8_passes_L2 K i1 n 0 M
set_option maxRecDepth 100000 in
def wp_X8_overSet_l4 (K : Int32 → Mem → Prop) (B4 : Int32 → Int32 → Mem → Prop) (i1 : Int32) (i2 : Int32) (Mb : Mem) : Prop := ((Mb 80 2) ≤ i2 → K i1 Mb) ∧ (¬ (Mb 80 2) ≤ i2 → wp_X8_its i2 5 Mb (fun r402 M402 => B4 (i1 ||| (r402 <<< (i2 &&& 31))) (i2 + 1) M402))
set_option maxRecDepth 100000 in
def wp_X8_overSet_L4 (K : Int32 → Mem → Prop) : Nat → Int32 → Int32 → Mem → Prop
  | 0 => fun _ _ _ => False
  | n + 1 => wp_X8_overSet_l4 K (wp_X8_overSet_L4 K n)
set_option maxRecDepth 100000 in
def wp_X8_overSet (M : Mem) (K : Int32 → Mem → Prop) : Prop := ∃ n, wp_X8_overSet_L4 K  n 0 0 M
set_option maxRecDepth 100000 in
def wp_X8_overBehind (i1 : Int32) (M : Mem) (K : Int32 → Mem → Prop) : Prop := wp_X8_moveAll 80 82 M (fun M1 => wp_X8_passes i1 M1 (fun M2 => wp_X8_overSet  M2 (fun r3 M3 => wp_X8_moveAll 82 80 M3 (fun M4 => K r3 M4))))
set_option maxRecDepth 100000 in
def wp_X8_days (i1 : Int32) (M : Mem) (K : Int32 → Mem → Prop) : Prop := wp_X8_in i1 1 60 M (fun r1 M1 => (¬ r1 = 0 → (((M1 80 0) + i1) ≤ 9999 → wp_X8_passes i1 M1 (fun M4 => wp_X8_overSet  M4 (fun r5 M5 => wp_X8_bits r5 M5 (fun r6 M6 => K r6 M6)))) ∧ (¬ ((M1 80 0) + i1) ≤ 9999 → wp_X8_errs (-1000000003) M1 (fun r7 M7 => K r7 M7))) ∧ (r1 = 0 → wp_X8_errs (-1000000001) M1 (fun r8 M8 => K r8 M8)))
set_option maxRecDepth 100000 in
def wp_X8_drawn (i1 : Int32) (M : Mem) (K : Int32 → Mem → Prop) : Prop := ¬ i1 = 0 ∧ (K (((((up M 80 1 (((M 80 1) * 1103515245) + 12345)) 80 1).toUInt32 >>> ((8 : Int32).toUInt32 &&& Int32.toUInt32 31)).toInt32) - ((((up M 80 1 (((M 80 1) * 1103515245) + 12345)) 80 1).toUInt32 >>> ((8 : Int32).toUInt32 &&& Int32.toUInt32 31)).toInt32) / i1 * i1) (up M 80 1 (((M 80 1) * 1103515245) + 12345)))
set_option maxRecDepth 100000 in
def wp_X8_loose_l40 (K : Int32 → Mem → Prop) (i1 : Int32) (B40 : Int32 → Mem → Prop) (i2 : Int32) (Mb : Mem) : Prop := (i1 ≤ i2 → wp_X8_overSet  Mb (fun r4002 M4002 => wp_X8_bits r4002 M4002 (fun r4003 M4003 => K r4003 M4003))) ∧ (¬ i1 ≤ i2 → wp_X8_drawn 10 Mb (fun r4004 M4004 => wp_X8_oneDay 1 (up M4004 80 8 r4004) (fun M4005 => B40 (i2 + 1) M4005)))
set_option maxRecDepth 100000 in
def wp_X8_loose_L40 (K : Int32 → Mem → Prop) (i1 : Int32) : Nat → Int32 → Mem → Prop
  | 0 => fun _ _ => False
  | n + 1 => wp_X8_loose_l40 K i1 (wp_X8_loose_L40 K i1 n)
set_option maxRecDepth 100000 in
def wp_X8_loose (i1 : Int32) (M : Mem) (K : Int32 → Mem → Prop) : Prop := wp_X8_in i1 1 40 M (fun r1 M1 => (¬ r1 = 0 → (((M1 80 0) + i1) ≤ 9999 → ∃ n, wp_X8_loose_L40 K i1 n 0 M1) ∧ (¬ ((M1 80 0) + i1) ≤ 9999 → wp_X8_errs (-1000000003) M1 (fun r4 M4 => K r4 M4))) ∧ (r1 = 0 → wp_X8_errs (-1000000001) M1 (fun r5 M5 => K r5 M5)))
set_option maxRecDepth 100000 in
def wp_X8_then (i1 : Int32) (i2 : Int32) (i3 : Int32) (M : Mem) (K : Int32 → Mem → Prop) : Prop := wp_X8_in i1 0 60 M (fun r1 M1 => (r1 = 0 → wp_X8_errs (-1000000001) M1 (fun r3 M3 => K r3 M3)) ∧ (¬ r1 = 0 → wp_X8_isQuarrel i2 M1 (fun r4 M4 => (r4 = 0 → wp_X8_errs (-1000000001) M4 (fun r6 M6 => K r6 M6)) ∧ (¬ r4 = 0 → wp_X8_in i3 0 2 M4 (fun r7 M7 => (¬ r7 = 0 → wp_X8_moveAll 80 82 M7 (fun M9 => wp_X8_passes i1 M9 (fun M10 => (¬ i3 = 0 → (¬ i3 = 1 → wp_X8_its i2 6 M10 (fun r13 M13 => wp_X8_moveAll 82 80 M13 (fun M14 => K r13 M14))) ∧ (i3 = 1 → wp_X8_its i2 5 M10 (fun r15 M15 => wp_X8_moveAll 82 80 M15 (fun M16 => K r15 M16)))) ∧ (i3 = 0 → wp_X8_its i2 3 M10 (fun r17 M17 => wp_X8_moveAll 82 80 M17 (fun M18 => K r17 M18)))))) ∧ (r7 = 0 → wp_X8_errs (-1000000001) M7 (fun r19 M19 => K r19 M19)))))))
set_option maxRecDepth 100000 in
def wp_X8_when_l29 (K : Int32 → Mem → Prop) (i1 : Int32) (B29 : Int32 → Mem → Prop) (i2 : Int32) (Mb : Mem) : Prop := (60 < i2 → wp_X8_moveAll 82 80 Mb (fun M2902 => (i2 ≤ 60 → K i2 M2902) ∧ (¬ i2 ≤ 60 → wp_X8_errs (-1000000002) M2902 (fun r2904 M2904 => K r2904 M2904)))) ∧ (¬ 60 < i2 → wp_X8_isOver i1 Mb (fun r2905 M2905 => (¬ r2905 = 0 → wp_X8_moveAll 82 80 M2905 (fun M2907 => (i2 ≤ 60 → K i2 M2907) ∧ (¬ i2 ≤ 60 → wp_X8_errs (-1000000002) M2907 (fun r2909 M2909 => K r2909 M2909)))) ∧ (r2905 = 0 → wp_X8_oneDay 1 M2905 (fun M2910 => B29 (i2 + 1) M2910))))
set_option maxRecDepth 100000 in
def wp_X8_when_L29 (K : Int32 → Mem → Prop) (i1 : Int32) : Nat → Int32 → Mem → Prop
  | 0 => fun _ _ => False
  | n + 1 => wp_X8_when_l29 K i1 (wp_X8_when_L29 K i1 n)
set_option maxRecDepth 100000 in
def wp_X8_when (i1 : Int32) (M : Mem) (K : Int32 → Mem → Prop) : Prop := wp_X8_isQuarrel i1 M (fun r1 M1 => (¬ r1 = 0 → wp_X8_moveAll 80 82 M1 (fun M3 => ∃ n, wp_X8_when_L29 K i1 n 0 M3)) ∧ (r1 = 0 → wp_X8_errs (-1000000001) M1 (fun r4 M4 => K r4 M4)))
set_option maxRecDepth 100000 in
def wp_X8_ended (i1 : Int32) (M : Mem) (K : Int32 → Mem → Prop) : Prop := wp_X8_in i1 0 60 M (fun r1 M1 => (r1 = 0 → wp_X8_errs (-1000000001) M1 (fun r3 M3 => K r3 M3)) ∧ (¬ r1 = 0 → wp_X8_overBehind i1 M1 (fun r4 M4 => K r4 M4)))
set_option maxRecDepth 100000 in
def wp_X8_mostOver_l17 (K : Int32 → Mem → Prop) (i1 : Int32) (i2 : Int32) (i3 : Int32) (i4 : Int32) (B17 : Int32 → Int32 → Int32 → Mem → Prop) (i5 : Int32) (i6 : Int32) (i7 : Int32) (Mb : Mem) : Prop := (10 ≤ i7 → vp_in i1 244 ∧ ((¬ i3 = 0 → K i6 (up Mb 80 i1.toNatClampNeg i4)) ∧ (i3 = 0 → K i5 (up Mb 80 i1.toNatClampNeg i4)))) ∧ (¬ 10 ≤ i7 → vp_in i1 244 ∧ (wp_X8_overBehind i2 (up Mb 80 i1.toNatClampNeg i7) (fun r1705 M1705 => wp_X8_bits r1705 M1705 (fun r1706 M1706 => (r1706 ≤ i6 → (r1706 ≤ i6 → B17 i5 i6 (i7 + 1) M1706) ∧ (¬ r1706 ≤ i6 → B17 i5 r1706 (i7 + 1) M1706)) ∧ (¬ r1706 ≤ i6 → (r1706 ≤ i6 → B17 i7 i6 (i7 + 1) M1706) ∧ (¬ r1706 ≤ i6 → B17 i7 r1706 (i7 + 1) M1706))))))
set_option maxRecDepth 100000 in
def wp_X8_mostOver_L17 (K : Int32 → Mem → Prop) (i1 : Int32) (i2 : Int32) (i3 : Int32) (i4 : Int32) : Nat → Int32 → Int32 → Int32 → Mem → Prop
  | 0 => fun _ _ _ _ => False
  | n + 1 => wp_X8_mostOver_l17 K i1 i2 i3 i4 (wp_X8_mostOver_L17 K i1 i2 i3 i4 n)
set_option maxRecDepth 100000 in
def wp_X8_mostOver (i1 : Int32) (i2 : Int32) (i3 : Int32) (M : Mem) (K : Int32 → Mem → Prop) : Prop := vp_in i1 244 ∧ (∃ n, wp_X8_mostOver_L17 K i1 i2 i3 (M 80 i1.toNatClampNeg) n 0 (-1) 0 M)
set_option maxRecDepth 100000 in
def wp_X8_start (i1 : Int32) (i2 : Int32) (M : Mem) (K : Int32 → Mem → Prop) : Prop := wp_X8_in i1 0 60 M (fun r1 M1 => (r1 = 0 → wp_X8_errs (-1000000001) M1 (fun r3 M3 => K r3 M3)) ∧ (¬ r1 = 0 → wp_X8_in i2 0 1 M1 (fun r4 M4 => (r4 = 0 → wp_X8_errs (-1000000001) M4 (fun r6 M6 => K r6 M6)) ∧ (¬ r4 = 0 → wp_X8_mostOver 7 i1 i2 M4 (fun r7 M7 => K r7 M7)))))
set_option maxRecDepth 100000 in
def wp_X8_pace (i1 : Int32) (i2 : Int32) (M : Mem) (K : Int32 → Mem → Prop) : Prop := wp_X8_in i1 0 60 M (fun r1 M1 => (r1 = 0 → wp_X8_errs (-1000000001) M1 (fun r3 M3 => K r3 M3)) ∧ (¬ r1 = 0 → wp_X8_in i2 0 1 M1 (fun r4 M4 => (r4 = 0 → wp_X8_errs (-1000000001) M4 (fun r6 M6 => K r6 M6)) ∧ (¬ r4 = 0 → wp_X8_mostOver 8 i1 i2 M4 (fun r7 M7 => K r7 M7)))))
set_option maxRecDepth 100000 in
def wp_X8_isOverBy_l15 (K : Int32 → Mem → Prop) (i1 : Int32) (i2 : Int32) (i3 : Int32) (B15 : Int32 → Mem → Prop) (i4 : Int32) (Mb : Mem) : Prop := ((Mb 80 2) ≤ i4 → wp_X8_passes i2 Mb (fun M1502 => wp_X8_isOver i1 M1502 (fun r1503 M1503 => wp_X8_moveAll 82 80 M1503 (fun M1504 => (r1503 = 0 ∨ r1503 = 1) ∧ (K r1503 M1504))))) ∧ (¬ (Mb 80 2) ≤ i4 → (¬ ((i3 >>> (i4 &&& 31)) &&& 1) = 1 → wp_X8_its i4 3 Mb (fun r1507 M1507 => wp_X8_gets i4 3 r1507 M1507 (fun M1508 => B15 (i4 + 1) M1508))) ∧ (((i3 >>> (i4 &&& 31)) &&& 1) = 1 → wp_X8_gets i4 3 99 Mb (fun M1509 => B15 (i4 + 1) M1509)))
set_option maxRecDepth 100000 in
def wp_X8_isOverBy_L15 (K : Int32 → Mem → Prop) (i1 : Int32) (i2 : Int32) (i3 : Int32) : Nat → Int32 → Mem → Prop
  | 0 => fun _ _ => False
  | n + 1 => wp_X8_isOverBy_l15 K i1 i2 i3 (wp_X8_isOverBy_L15 K i1 i2 i3 n)
set_option maxRecDepth 100000 in
def wp_X8_isOverBy (i1 : Int32) (i2 : Int32) (i3 : Int32) (M : Mem) (K : Int32 → Mem → Prop) : Prop := wp_X8_moveAll 80 82 M (fun M1 => ∃ n, wp_X8_isOverBy_L15 K i1 i2 i3 n 0 M1)
set_option maxRecDepth 100000 in
def wp_X8_hand_l36 (K : Int32 → Mem → Prop) (i1 : Int32) (i2 : Int32) (i3 : Int32) (B36 : Int32 → Int32 → Mem → Prop) (i4 : Int32) (i5 : Int32) (Mb : Mem) : Prop := (((1 : Int32) <<< ((Mb 80 2) &&& 31)) ≤ i5 → (0 ≤ i4 → K i4 Mb) ∧ (¬ 0 ≤ i4 → wp_X8_errs (-1000000002) Mb (fun r3603 M3603 => K r3603 M3603))) ∧ (¬ ((1 : Int32) <<< ((Mb 80 2) &&& 31)) ≤ i5 → (¬ (i5 &&& i3) = 0 → B36 i4 (i5 + 1) Mb) ∧ ((i5 &&& i3) = 0 → (i4 < 0 → wp_X8_isOverBy i1 i2 i5 Mb (fun r3606 M3606 => (r3606 = 0 → B36 i4 (i5 + 1) M3606) ∧ (¬ r3606 = 0 → B36 i5 (i5 + 1) M3606))) ∧ (¬ i4 < 0 → wp_X8_bits i5 Mb (fun r3608 M3608 => wp_X8_bits i4 M3608 (fun r3609 M3609 => (r3609 ≤ r3608 → B36 i4 (i5 + 1) M3609) ∧ (¬ r3609 ≤ r3608 → wp_X8_isOverBy i1 i2 i5 M3609 (fun r3611 M3611 => (r3611 = 0 → B36 i4 (i5 + 1) M3611) ∧ (¬ r3611 = 0 → B36 i5 (i5 + 1) M3611))))))))
set_option maxRecDepth 100000 in
def wp_X8_hand_L36 (K : Int32 → Mem → Prop) (i1 : Int32) (i2 : Int32) (i3 : Int32) : Nat → Int32 → Int32 → Mem → Prop
  | 0 => fun _ _ _ => False
  | n + 1 => wp_X8_hand_l36 K i1 i2 i3 (wp_X8_hand_L36 K i1 i2 i3 n)
set_option maxRecDepth 100000 in
def wp_X8_hand (i1 : Int32) (i2 : Int32) (M : Mem) (K : Int32 → Mem → Prop) : Prop := wp_X8_isQuarrel i1 M (fun r1 M1 => (r1 = 0 → wp_X8_errs (-1000000001) M1 (fun r3 M3 => K r3 M3)) ∧ (¬ r1 = 0 → wp_X8_in i2 0 20 M1 (fun r4 M4 => (¬ r4 = 0 → wp_X8_overSet  M4 (fun r6 M6 => ∃ n, wp_X8_hand_L36 K i1 i2 r6 n (-1) 0 M6)) ∧ (r4 = 0 → wp_X8_errs (-1000000001) M4 (fun r7 M7 => K r7 M7)))))
set_option maxRecDepth 100000 in
def wp_X8_first_l63 (K : Int32 → Mem → Prop) (i1 : Int32) (i2 : Int32) (B63 : Int32 → Int32 → Int32 → Mem → Prop) (i3 : Int32) (i4 : Int32) (i5 : Int32) (Mb : Mem) : Prop := ((Mb 82 2) ≤ i5 → (¬ i2 = 0 → K (i4 - (Mb 80 9)) Mb) ∧ (i2 = 0 → K i3 Mb)) ∧ (¬ (Mb 82 2) ≤ i5 → wp_X8_gets i5 5 1 Mb (fun M6303 => wp_X8_passes i1 M6303 (fun M6304 => wp_X8_moveAll 82 80 M6304 (fun M6305 => (i4 ≤ (M6304 80 9) → (i4 ≤ (M6304 80 9) → B63 i3 i4 (i5 + 1) M6305) ∧ (¬ i4 ≤ (M6304 80 9) → B63 i3 (M6304 80 9) (i5 + 1) M6305)) ∧ (¬ i4 ≤ (M6304 80 9) → (i4 ≤ (M6304 80 9) → B63 i5 i4 (i5 + 1) M6305) ∧ (¬ i4 ≤ (M6304 80 9) → B63 i5 (M6304 80 9) (i5 + 1) M6305))))))
set_option maxRecDepth 100000 in
def wp_X8_first_L63 (K : Int32 → Mem → Prop) (i1 : Int32) (i2 : Int32) : Nat → Int32 → Int32 → Int32 → Mem → Prop
  | 0 => fun _ _ _ _ => False
  | n + 1 => wp_X8_first_l63 K i1 i2 (wp_X8_first_L63 K i1 i2 n)
set_option maxRecDepth 100000 in
def wp_X8_first (i1 : Int32) (i2 : Int32) (M : Mem) (K : Int32 → Mem → Prop) : Prop := wp_X8_in i1 0 60 M (fun r1 M1 => (r1 = 0 → wp_X8_errs (-1000000001) M1 (fun r3 M3 => K r3 M3)) ∧ (¬ r1 = 0 → wp_X8_in i2 0 1 M1 (fun r4 M4 => (¬ r4 = 0 → (¬ (M4 80 2) = 0 → wp_X8_moveAll 80 82 M4 (fun M7 => ∃ n, wp_X8_first_L63 K i1 i2 n 0 100000 0 M7)) ∧ ((M4 80 2) = 0 → wp_X8_errs (-1000000002) M4 (fun r8 M8 => K r8 M8))) ∧ (r4 = 0 → wp_X8_errs (-1000000001) M4 (fun r9 M9 => K r9 M9)))))
set_option maxRecDepth 100000 in
def wp_X8_isSheet (i0 : Int32) (M : Mem) (K : Int32 → Mem → Prop) : Prop := wp_X8_in i0 0 3 M (fun r1 M1 => (r1 = 0 ∨ r1 = 1) ∧ (K r1 M1))
set_option maxRecDepth 100000 in
def wp_X8_areEdgesSo_l9 (K : Int32 → Mem → Prop) (i1 : Int32) (B9 : Int32 → Int32 → Mem → Prop) (i2 : Int32) (i3 : Int32) (Mb : Mem) : Prop := ((Mb 80 2) ≤ i3 → (i2 = 0 ∨ i2 = 1) ∧ (K i2 Mb)) ∧ (¬ (Mb 80 2) ≤ i3 → (i2 = 0 → B9 0 (i3 + 1) Mb) ∧ (¬ i2 = 0 → wp_X8_its i3 3 Mb (fun r904 M904 => vp_in ((40 * i1) + i3) 160 ∧ ((¬ r904 = (M904 89 ((40 * i1) + i3).toNatClampNeg) → B9 0 (i3 + 1) M904) ∧ (r904 = (M904 89 ((40 * i1) + i3).toNatClampNeg) → B9 1 (i3 + 1) M904)))))
set_option maxRecDepth 100000 in
def wp_X8_areEdgesSo_L9 (K : Int32 → Mem → Prop) (i1 : Int32) : Nat → Int32 → Int32 → Mem → Prop
  | 0 => fun _ _ _ => False
  | n + 1 => wp_X8_areEdgesSo_l9 K i1 (wp_X8_areEdgesSo_L9 K i1 n)
set_option maxRecDepth 100000 in
def wp_X8_areEdgesSo (i1 : Int32) (M : Mem) (K : Int32 → Mem → Prop) : Prop := wp_X8_oneDay 1 M (fun M1 => ∃ n, wp_X8_areEdgesSo_L9 K i1 n 1 0 M1)
set_option maxRecDepth 100000 in
def wp_X8_sparks_l71 (K : Int32 → Mem → Prop) (i1 : Int32) (i2 : Int32) (B71 : Int32 → Int32 → Mem → Prop) (i3 : Int32) (i4 : Int32) (Mb : Mem) : Prop := (10 ≤ i4 → (¬ i2 = 0 → wp_X8_bits i3 Mb (fun r7103 M7103 => K r7103 M7103)) ∧ (i2 = 0 → K i3 Mb)) ∧ (¬ 10 ≤ i4 → wp_X8_areEdgesSo i1 (up Mb 80 7 i4) (fun r7104 M7104 => (r7104 = 0 → wp_X8_moveAll 82 80 M7104 (fun M7106 => B71 (i3 ||| 0) (i4 + 1) M7106)) ∧ (¬ r7104 = 0 → wp_X8_moveAll 82 80 M7104 (fun M7107 => B71 (i3 ||| ((1 : Int32) <<< (i4 &&& 31))) (i4 + 1) M7107))))
set_option maxRecDepth 100000 in
def wp_X8_sparks_L71 (K : Int32 → Mem → Prop) (i1 : Int32) (i2 : Int32) : Nat → Int32 → Int32 → Mem → Prop
  | 0 => fun _ _ _ => False
  | n + 1 => wp_X8_sparks_l71 K i1 i2 (wp_X8_sparks_L71 K i1 i2 n)
set_option maxRecDepth 100000 in
def wp_X8_sparks (i1 : Int32) (i2 : Int32) (M : Mem) (K : Int32 → Mem → Prop) : Prop := wp_X8_isSheet i1 M (fun r1 M1 => (r1 = 0 → wp_X8_errs (-1000000001) M1 (fun r3 M3 => K r3 M3)) ∧ (¬ r1 = 0 → wp_X8_in i2 0 1 M1 (fun r4 M4 => (¬ r4 = 0 → vp_in i1 4 ∧ (((M4 87 i1.toNatClampNeg) = 0 → wp_X8_errs (-1000000002) M4 (fun r8 M8 => K r8 M8)) ∧ (¬ (M4 87 i1.toNatClampNeg) = 0 → vp_in i1 4 ∧ (((M4 88 i1.toNatClampNeg) = (M4 80 2) → wp_X8_moveAll 80 82 M4 (fun M11 => ∃ n, wp_X8_sparks_L71 K i1 i2 n 0 0 M11)) ∧ (¬ (M4 88 i1.toNatClampNeg) = (M4 80 2) → wp_X8_errs (-1000000002) M4 (fun r12 M12 => K r12 M12)))))) ∧ (r4 = 0 → wp_X8_errs (-1000000001) M4 (fun r13 M13 => K r13 M13)))))
set_option maxRecDepth 100000 in
def wp_X8_last_b101 (K : Int32 → Mem → Prop) (B41 : Int32 → Int32 → Int32 → Int32 → Mem → Prop) (B74 : Int32 → Int32 → Int32 → Mem → Prop) (i1 : Int32) (i2 : Int32) (i3 : Int32) (i4 : Int32) (i5 : Int32) (i6 : Int32) (i7 : Int32) (t0 : Int32) (Mb : Mem) : Prop := (t0 = 0 → (t0 = 0 → B74 i2 i3 (i7 + 1) Mb) ∧ (¬ t0 = 0 → B74 i2 i5 (i7 + 1) Mb)) ∧ (¬ t0 = 0 → (t0 = 0 → B74 i7 i3 (i7 + 1) Mb) ∧ (¬ t0 = 0 → B74 i7 i5 (i7 + 1) Mb))
set_option maxRecDepth 100000 in
def wp_X8_last_l74 (K : Int32 → Mem → Prop) (B41 : Int32 → Int32 → Int32 → Int32 → Mem → Prop) (i1 : Int32) (i4 : Int32) (i5 : Int32) (i6 : Int32) (B74 : Int32 → Int32 → Int32 → Mem → Prop) (i2 : Int32) (i3 : Int32) (i7 : Int32) (Mb : Mem) : Prop := ((Mb 80 2) ≤ i7 → B41 i2 i3 i4 (i5 + 1) Mb) ∧ (¬ (Mb 80 2) ≤ i7 → (¬ ((i6 >>> (i7 &&& 31)) &&& 1) = 1 → wp_X8_last_b101 K B41 B74 i1 i2 i3 i4 i5 i6 i7 0 Mb) ∧ (((i6 >>> (i7 &&& 31)) &&& 1) = 1 → wp_X8_last_b101 K B41 B74 i1 i2 i3 i4 i5 i6 i7 1 Mb))
set_option maxRecDepth 100000 in
def wp_X8_last_L74 (K : Int32 → Mem → Prop) (B41 : Int32 → Int32 → Int32 → Int32 → Mem → Prop) (i1 : Int32) (i4 : Int32) (i5 : Int32) (i6 : Int32) : Nat → Int32 → Int32 → Int32 → Mem → Prop
  | 0 => fun _ _ _ _ => False
  | n + 1 => wp_X8_last_l74 K B41 i1 i4 i5 i6 (wp_X8_last_L74 K B41 i1 i4 i5 i6 n)
set_option maxRecDepth 100000 in
def wp_X8_last_l41 (K : Int32 → Mem → Prop) (i1 : Int32) (B41 : Int32 → Int32 → Int32 → Int32 → Mem → Prop) (i2 : Int32) (i3 : Int32) (i4 : Int32) (i5 : Int32) (Mb : Mem) : Prop := (60 < i5 → wp_X8_moveAll 82 80 Mb (fun M4102 => (0 ≤ i2 → (¬ i1 = 0 → K i3 M4102) ∧ (i1 = 0 → K i2 M4102)) ∧ (¬ 0 ≤ i2 → wp_X8_errs (-1000000002) M4102 (fun r4105 M4105 => K r4105 M4105)))) ∧ (¬ 60 < i5 → wp_X8_oneDay 1 Mb (fun M4106 => wp_X8_overSet  M4106 (fun r4107 M4107 => ∃ n, wp_X8_last_L74 K B41 i1 (i4 ||| (r4107 &&& (i4 ^^^ (-1)))) i5 (r4107 &&& (i4 ^^^ (-1))) n i2 i3 0 M4107)))
set_option maxRecDepth 100000 in
def wp_X8_last_L41 (K : Int32 → Mem → Prop) (i1 : Int32) : Nat → Int32 → Int32 → Int32 → Int32 → Mem → Prop
  | 0 => fun _ _ _ _ _ => False
  | n + 1 => wp_X8_last_l41 K i1 (wp_X8_last_L41 K i1 n)
set_option maxRecDepth 100000 in
def wp_X8_last (i1 : Int32) (M : Mem) (K : Int32 → Mem → Prop) : Prop := wp_X8_in i1 0 1 M (fun r1 M1 => (¬ r1 = 0 → wp_X8_moveAll 80 82 M1 (fun M3 => wp_X8_overSet  M3 (fun r4 M4 => ∃ n, wp_X8_last_L41 K i1 n (-1) 0 r4 1 M4))) ∧ (r1 = 0 → wp_X8_errs (-1000000001) M1 (fun r5 M5 => K r5 M5)))
set_option maxRecDepth 100000 in
def wp_X8_sharp_l38 (K : Int32 → Mem → Prop) (i1 : Int32) (i2 : Int32) (i3 : Int32) (B38 : Int32 → Int32 → Mem → Prop) (i4 : Int32) (i5 : Int32) (Mb : Mem) : Prop := (99 ≤ i4 → wp_X8_gets i1 3 i3 Mb (fun M3802 => (i5 = 0 → wp_X8_errs (-1000000002) M3802 (fun r3804 M3804 => K r3804 M3804)) ∧ (¬ i5 = 0 → K i4 M3802))) ∧ (¬ 99 ≤ i4 → (¬ i5 = 0 → wp_X8_gets i1 3 i3 Mb (fun M3806 => (i5 = 0 → wp_X8_errs (-1000000002) M3806 (fun r3808 M3808 => K r3808 M3808)) ∧ (¬ i5 = 0 → K i4 M3806))) ∧ (i5 = 0 → wp_X8_gets i1 3 (i4 + 1) Mb (fun M3809 => wp_X8_overBehind i2 M3809 (fun r3810 M3810 => (¬ ((r3810 >>> (i1 &&& 31)) &&& 1) = 1 → B38 (i4 + 1) 0 M3810) ∧ (((r3810 >>> (i1 &&& 31)) &&& 1) = 1 → B38 (i4 + 1) 1 M3810)))))
set_option maxRecDepth 100000 in
def wp_X8_sharp_L38 (K : Int32 → Mem → Prop) (i1 : Int32) (i2 : Int32) (i3 : Int32) : Nat → Int32 → Int32 → Mem → Prop
  | 0 => fun _ _ _ => False
  | n + 1 => wp_X8_sharp_l38 K i1 i2 i3 (wp_X8_sharp_L38 K i1 i2 i3 n)
set_option maxRecDepth 100000 in
def wp_X8_sharp (i1 : Int32) (i2 : Int32) (M : Mem) (K : Int32 → Mem → Prop) : Prop := wp_X8_isQuarrel i1 M (fun r1 M1 => (r1 = 0 → wp_X8_errs (-1000000001) M1 (fun r3 M3 => K r3 M3)) ∧ (¬ r1 = 0 → wp_X8_in i2 1 60 M1 (fun r4 M4 => (¬ r4 = 0 → wp_X8_its i1 3 M4 (fun r6 M6 => ∃ n, wp_X8_sharp_L38 K i1 i2 r6 n (-1) 0 M6)) ∧ (r4 = 0 → wp_X8_errs (-1000000001) M4 (fun r7 M7 => K r7 M7)))))
set_option maxRecDepth 100000 in
def wp_X8_off (i1 : Int32) (M : Mem) (K : Int32 → Mem → Prop) : Prop := wp_X8_in i1 0 60 M (fun r1 M1 => (¬ r1 = 0 → (¬ i1 = 0 → wp_X8_moveAll 80 82 M1 (fun M4 => wp_X8_oneDay 0 M4 (fun M5 => wp_X8_passes (i1 - 1) M5 (fun M6 => wp_X8_moveAll 82 80 M6 (fun M7 => wp_X8_passes i1 M7 (fun M8 => wp_X8_moveAll 82 80 M8 (fun M9 => K ((M6 80 9) - (M8 80 9)) M9))))))) ∧ (i1 = 0 → K 0 M1)) ∧ (r1 = 0 → wp_X8_errs (-1000000001) M1 (fun r10 M10 => K r10 M10)))
set_option maxRecDepth 100000 in
def wp_X8_chain_l21 (K : Int32 → Mem → Prop) (i1 : Int32) (B21 : Int32 → Int32 → Mem → Prop) (i2 : Int32) (i3 : Int32) (Mb : Mem) : Prop := ((Mb 80 2) ≤ i3 → K i2 Mb) ∧ (¬ (Mb 80 2) ≤ i3 → wp_X8_its i3 4 Mb (fun r2102 M2102 => wp_X8_isOver i3 M2102 (fun r2103 M2103 => (¬ r2103 = 0 → B21 (i2 ||| 0) (i3 + 1) M2103) ∧ (r2103 = 0 → (r2102 < 0 → B21 (i2 ||| 0) (i3 + 1) M2103) ∧ (¬ r2102 < 0 → (r2102 = i1 → B21 (i2 ||| ((1 : Int32) <<< (i3 &&& 31))) (i3 + 1) M2103) ∧ (¬ r2102 = i1 → (¬ ((i2 >>> (r2102 &&& 31)) &&& 1) = 1 → B21 (i2 ||| 0) (i3 + 1) M2103) ∧ (((i2 >>> (r2102 &&& 31)) &&& 1) = 1 → B21 (i2 ||| ((1 : Int32) <<< (i3 &&& 31))) (i3 + 1) M2103)))))))
set_option maxRecDepth 100000 in
def wp_X8_chain_L21 (K : Int32 → Mem → Prop) (i1 : Int32) : Nat → Int32 → Int32 → Mem → Prop
  | 0 => fun _ _ _ => False
  | n + 1 => wp_X8_chain_l21 K i1 (wp_X8_chain_L21 K i1 n)
set_option maxRecDepth 100000 in
def wp_X8_chain (i1 : Int32) (M : Mem) (K : Int32 → Mem → Prop) : Prop := wp_X8_isQuarrel i1 M (fun r1 M1 => (¬ r1 = 0 → ∃ n, wp_X8_chain_L21 K i1 n 0 (i1 + 1) M1) ∧ (r1 = 0 → wp_X8_errs (-1000000001) M1 (fun r3 M3 => K r3 M3)))
set_option maxRecDepth 100000 in
def wp_X8_fee (i1 : Int32) (M : Mem) (K : Int32 → Mem → Prop) : Prop := wp_X8_in i1 0 60 M (fun r1 M1 => (¬ r1 = 0 → wp_X8_moveAll 80 82 M1 (fun M3 => wp_X8_passes i1 M3 (fun M4 => wp_X8_moveAll 82 80 M4 (fun M5 => K ((M4 80 10) - (M4 82 10)) M5)))) ∧ (r1 = 0 → wp_X8_errs (-1000000001) M1 (fun r6 M6 => K r6 M6)))
set_option maxRecDepth 100000 in
def wp_X8_free_l4 (K : Int32 → Mem → Prop) (B4 : Int32 → Int32 → Mem → Prop) (i1 : Int32) (i2 : Int32) (Mb : Mem) : Prop := ((Mb 80 2) ≤ i2 → K i1 Mb) ∧ (¬ (Mb 80 2) ≤ i2 → wp_X8_isOver i2 Mb (fun r402 M402 => (¬ r402 = 0 → B4 (i1 ||| 0) (i2 + 1) M402) ∧ (r402 = 0 → wp_X8_isLoose i2 M402 (fun r404 M404 => (r404 = 0 → B4 (i1 ||| 0) (i2 + 1) M404) ∧ (¬ r404 = 0 → B4 (i1 ||| ((1 : Int32) <<< (i2 &&& 31))) (i2 + 1) M404)))))
set_option maxRecDepth 100000 in
def wp_X8_free_L4 (K : Int32 → Mem → Prop) : Nat → Int32 → Int32 → Mem → Prop
  | 0 => fun _ _ _ => False
  | n + 1 => wp_X8_free_l4 K (wp_X8_free_L4 K n)
set_option maxRecDepth 100000 in
def wp_X8_free (M : Mem) (K : Int32 → Mem → Prop) : Prop := ∃ n, wp_X8_free_L4 K  n 0 0 M
set_option maxRecDepth 100000 in
def wp_X8_divisor_l4 (K : Int32 → Mem → Prop) (B4 : Int32 → Int32 → Mem → Prop) (i2 : Int32) (i3 : Int32) (Mb : Mem) : Prop := (i3 = 0 → K i2 Mb) ∧ (¬ i3 = 0 → ¬ i3 = 0 ∧ (B4 i3 (i2 - i2 / i3 * i3) Mb))
set_option maxRecDepth 100000 in
def wp_X8_divisor_L4 (K : Int32 → Mem → Prop) : Nat → Int32 → Int32 → Mem → Prop
  | 0 => fun _ _ _ => False
  | n + 1 => wp_X8_divisor_l4 K (wp_X8_divisor_L4 K n)
set_option maxRecDepth 100000 in
def wp_X8_divisor (i0 : Int32) (i1 : Int32) (M : Mem) (K : Int32 → Mem → Prop) : Prop := ∃ n, wp_X8_divisor_L4 K  n i0 i1 M
set_option maxRecDepth 100000 in
def wp_X8_odds_l49 (K : Int32 → Mem → Prop) (i1 : Int32) (i2 : Int32) (i3 : Int32) (i4 : Int32) (B49 : Int32 → Int32 → Mem → Prop) (i5 : Int32) (i6 : Int32) (Mb : Mem) : Prop := (10 ≤ i6 → wp_X8_divisor i5 10 (up Mb 80 7 i4) (fun r4902 M4902 => (¬ i3 = 0 → ¬ r4902 = 0 ∧ (K (10 / r4902) M4902)) ∧ (i3 = 0 → ¬ r4902 = 0 ∧ (K (i5 / r4902) M4902)))) ∧ (¬ 10 ≤ i6 → wp_X8_overBehind i2 (up Mb 80 7 i6) (fun r4906 M4906 => B49 (i5 + ((r4906 >>> (i1 &&& 31)) &&& 1)) (i6 + 1) M4906))
set_option maxRecDepth 100000 in
def wp_X8_odds_L49 (K : Int32 → Mem → Prop) (i1 : Int32) (i2 : Int32) (i3 : Int32) (i4 : Int32) : Nat → Int32 → Int32 → Mem → Prop
  | 0 => fun _ _ _ => False
  | n + 1 => wp_X8_odds_l49 K i1 i2 i3 i4 (wp_X8_odds_L49 K i1 i2 i3 i4 n)
set_option maxRecDepth 100000 in
def wp_X8_odds (i1 : Int32) (i2 : Int32) (i3 : Int32) (M : Mem) (K : Int32 → Mem → Prop) : Prop := wp_X8_isQuarrel i1 M (fun r1 M1 => (r1 = 0 → wp_X8_errs (-1000000001) M1 (fun r3 M3 => K r3 M3)) ∧ (¬ r1 = 0 → wp_X8_in i2 0 60 M1 (fun r4 M4 => (r4 = 0 → wp_X8_errs (-1000000001) M4 (fun r6 M6 => K r6 M6)) ∧ (¬ r4 = 0 → wp_X8_in i3 0 1 M4 (fun r7 M7 => (¬ r7 = 0 → ∃ n, wp_X8_odds_L49 K i1 i2 i3 (M7 80 7) n 0 0 M7) ∧ (r7 = 0 → wp_X8_errs (-1000000001) M7 (fun r9 M9 => K r9 M9)))))))
set_option maxRecDepth 100000 in
def wp_X8_seed (i1 : Int32) (M : Mem) (K : Int32 → Mem → Prop) : Prop := K (M 80 1) (up M 80 1 i1)
set_option maxRecDepth 100000 in
def wp_X8_ran (i1 : Int32) (M : Mem) (K : Mem → Prop) : Prop := (40 ≤ (M 79 20) → K M) ∧ (¬ 40 ≤ (M 79 20) → vp_in (M 79 20) 40 ∧ (K (up (up M 91 (M 79 20).toNatClampNeg i1) 79 20 (((up M 91 (M 79 20).toNatClampNeg i1) 79 20) + 1))))
set_option maxRecDepth 100000 in
def wpb_X8_grindsIn (R0 : Int32 → Int32 → Mem → (Int32 → Mem → Prop) → Prop) (i1 : Int32) (i2 : Int32) (M : Mem) (K : Int32 → Mem → Prop) : Prop := (¬ i1 = 0 → (¬ i1 = 1 → wp_X8_above i1 M (fun r3 M3 => R0 r3 i2 M3 (fun r4 M4 => K r4 M4))) ∧ (i1 = 1 → wp_X8_ran 20 M (fun M5 => R0 0 i2 M5 (fun r6 M6 => K (r6 * 3) M6)))) ∧ (i1 = 0 → wp_X8_ran 10 M (fun M7 => K (i2 + (M7 79 22)) M7))
def wpG_X8_grindsIn : Nat → (Int32 → Int32 → Mem → (Int32 → Mem → Prop) → Prop)
  | 0 => fun _ _ _ _ => False
  | n + 1 => wpb_X8_grindsIn (wpG_X8_grindsIn n)
abbrev wp_X8_grindsIn (n : Nat) : Int32 → Int32 → Mem → (Int32 → Mem → Prop) → Prop := (wpG_X8_grindsIn n)
set_option maxRecDepth 100000 in
def wpb_X8_sparksIn (R0 : Int32 → Int32 → Mem → (Int32 → Mem → Prop) → Prop) (i1 : Int32) (i2 : Int32) (M : Mem) (K : Int32 → Mem → Prop) : Prop := (¬ i1 = 0 → (¬ i1 = 3 → (¬ i1 = 6 → wp_X8_above i1 M (fun r4 M4 => R0 r4 i2 M4 (fun r5 M5 => K r5 M5))) ∧ (i1 = 6 → wp_X8_ran 70 M (fun M6 => R0 3 i2 M6 (fun r7 M7 => K (r7 ^^^ (M7 79 22)) M7)))) ∧ (i1 = 3 → wp_X8_ran 40 M (fun M8 => R0 0 i2 M8 (fun r9 M9 => K (-r9) M9)))) ∧ (i1 = 0 → wp_X8_ran 12 M (fun M10 => K (i2 - (M10 79 23)) M10))
def wpG_X8_sparksIn : Nat → (Int32 → Int32 → Mem → (Int32 → Mem → Prop) → Prop)
  | 0 => fun _ _ _ _ => False
  | n + 1 => wpb_X8_sparksIn (wpG_X8_sparksIn n)
abbrev wp_X8_sparksIn (n : Nat) : Int32 → Int32 → Mem → (Int32 → Mem → Prop) → Prop := (wpG_X8_sparksIn n)
set_option maxRecDepth 100000 in
def wpb_X8_cutsIn (R0 : Int32 → Int32 → Mem → (Int32 → Mem → Prop) → Prop) (i1 : Int32) (i2 : Int32) (M : Mem) (K : Int32 → Mem → Prop) : Prop := (¬ i1 = 0 → (¬ i1 = 2 → (¬ i1 = 5 → wp_X8_above i1 M (fun r4 M4 => R0 r4 i2 M4 (fun r5 M5 => K r5 M5))) ∧ (i1 = 5 → wp_X8_ran 60 M (fun M6 => R0 2 (i2 + 1) M6 (fun r7 M7 => K r7 M7)))) ∧ (i1 = 2 → wp_X8_ran 30 M (fun M8 => R0 0 i2 M8 (fun r9 M9 => wp_X8_sparksIn 8 (M9 79 21) 1 M9 (fun r10 M10 => K (r9 - r10) M10))))) ∧ (i1 = 0 → wp_X8_ran 11 M (fun M11 => wp_X8_grindsIn 8 (M11 79 21) i2 M11 (fun r12 M12 => K (r12 * 2) M12)))
def wpG_X8_cutsIn : Nat → (Int32 → Int32 → Mem → (Int32 → Mem → Prop) → Prop)
  | 0 => fun _ _ _ _ => False
  | n + 1 => wpb_X8_cutsIn (wpG_X8_cutsIn n)
abbrev wp_X8_cutsIn (n : Nat) : Int32 → Int32 → Mem → (Int32 → Mem → Prop) → Prop := (wpG_X8_cutsIn n)
set_option maxRecDepth 100000 in
def wpb_X8_tellsIn (R0 : Int32 → Int32 → Mem → (Int32 → Mem → Prop) → Prop) (i1 : Int32) (i2 : Int32) (M : Mem) (K : Int32 → Mem → Prop) : Prop := (¬ i1 = 0 → (¬ i1 = 4 → (¬ i1 = 6 → wp_X8_above i1 M (fun r4 M4 => R0 r4 i2 M4 (fun r5 M5 => K r5 M5))) ∧ (i1 = 6 → wp_X8_ran 71 M (fun M6 => wp_X8_cutsIn 8 (M6 79 21) i2 M6 (fun r7 M7 => R0 3 i2 M7 (fun r8 M8 => K (r7 - r8) M8))))) ∧ (i1 = 4 → wp_X8_ran 50 M (fun M9 => R0 1 i2 M9 (fun r10 M10 => wp_X8_grindsIn 8 (M10 79 21) 2 M10 (fun r11 M11 => K (r10 - r11) M11))))) ∧ (i1 = 0 → wp_X8_ran 13 M (fun M12 => wp_X8_cutsIn 8 (M12 79 21) i2 M12 (fun r13 M13 => wp_X8_sparksIn 8 (M13 79 21) i2 M13 (fun r14 M14 => K (r13 ^^^ r14) M14))))
def wpG_X8_tellsIn : Nat → (Int32 → Int32 → Mem → (Int32 → Mem → Prop) → Prop)
  | 0 => fun _ _ _ _ => False
  | n + 1 => wpb_X8_tellsIn (wpG_X8_tellsIn n)
abbrev wp_X8_tellsIn (n : Nat) : Int32 → Int32 → Mem → (Int32 → Mem → Prop) → Prop := (wpG_X8_tellsIn n)
set_option maxRecDepth 100000 in
def wp_X8_voice (i1 : Int32) (i2 : Int32) (i3 : Int32) (M : Mem) (K : Int32 → Mem → Prop) : Prop := wp_X8_isQuarrel i1 M (fun r1 M1 => (r1 = 0 → wp_X8_errs (-1000000001) M1 (fun r3 M3 => K r3 M3)) ∧ (¬ r1 = 0 → wp_X8_in i2 0 3 M1 (fun r4 M4 => (¬ r4 = 0 → wp_X8_its i1 0 (up M4 79 20 0) (fun r6 M6 => wp_X8_its i1 1 (up (up M6 79 21 r6) 79 22 i1) (fun r7 M7 => (i2 = 0 → wp_X8_grindsIn 8 ((up M7 79 23 r7) 79 21) i3 (up M7 79 23 r7) (fun r9 M9 => K r9 M9)) ∧ (¬ i2 = 0 → (i2 = 1 → wp_X8_cutsIn 8 ((up M7 79 23 r7) 79 21) i3 (up M7 79 23 r7) (fun r11 M11 => K r11 M11)) ∧ (¬ i2 = 1 → (i2 = 2 → wp_X8_sparksIn 8 ((up M7 79 23 r7) 79 21) i3 (up M7 79 23 r7) (fun r13 M13 => K r13 M13)) ∧ (¬ i2 = 2 → wp_X8_tellsIn 8 ((up M7 79 23 r7) 79 21) i3 (up M7 79 23 r7) (fun r14 M14 => K r14 M14))))))) ∧ (r4 = 0 → wp_X8_errs (-1000000001) M4 (fun r15 M15 => K r15 M15)))))
set_option maxRecDepth 100000 in
def wp_X8_trace (i1 : Int32) (M : Mem) (K : Int32 → Mem → Prop) : Prop := wp_X8_in i1 0 ((M 79 20) - 1) M (fun r1 M1 => (r1 = 0 → wp_X8_errs (-1000000002) M1 (fun r3 M3 => K r3 M3)) ∧ (¬ r1 = 0 → vp_in i1 40 ∧ (K (M1 91 i1.toNatClampNeg) M1)))
set_option maxRecDepth 100000 in
def wp_X8_narrow (i0 : Int32) (i1 : Int32) (M : Mem) (K : Int32 → Mem → Prop) : Prop := (¬ i0 = 8 → (¬ i0 = 16 → K i1 M) ∧ (i0 = 16 → K (i1.toInt16.toInt32) M)) ∧ (i0 = 8 → K (i1.toInt8.toInt32) M)
set_option maxRecDepth 100000 in
def wp_X8_sheet_l93 (K : Int32 → Mem → Prop) (i1 : Int32) (B93 : Int32 → Mem → Prop) (i4 : Int32) (Mb : Mem) : Prop := (40 ≤ i4 → K 1 Mb) ∧ (¬ 40 ≤ i4 → vp_in ((40 * i1) + i4) 160 ∧ (B93 (i4 + 1) (up Mb 89 ((40 * i1) + i4).toNatClampNeg 0)))
set_option maxRecDepth 100000 in
def wp_X8_sheet_L93 (K : Int32 → Mem → Prop) (i1 : Int32) : Nat → Int32 → Mem → Prop
  | 0 => fun _ _ => False
  | n + 1 => wp_X8_sheet_l93 K i1 (wp_X8_sheet_L93 K i1 n)
set_option maxRecDepth 100000 in
def wp_X8_sheet_b51 (K : Int32 → Mem → Prop) (i1 : Int32) (i2 : Int32) (i3 : Int32) (Mb : Mem) : Prop := (i2 = 0 → vp_in i1 4 ∧ ((¬ i2 = 0 → vp_in i1 4 ∧ (∃ n, wp_X8_sheet_L93 K i1 n 0 (up (up Mb 87 i1.toNatClampNeg i2) 88 i1.toNatClampNeg i3))) ∧ (i2 = 0 → vp_in i1 4 ∧ (∃ n, wp_X8_sheet_L93 K i1 n 0 (up (up Mb 87 i1.toNatClampNeg i2) 88 i1.toNatClampNeg 0))))) ∧ (¬ i2 = 0 → (i3 ≤ 40 → vp_in i1 4 ∧ ((¬ i2 = 0 → vp_in i1 4 ∧ (∃ n, wp_X8_sheet_L93 K i1 n 0 (up (up Mb 87 i1.toNatClampNeg i2) 88 i1.toNatClampNeg i3))) ∧ (i2 = 0 → vp_in i1 4 ∧ (∃ n, wp_X8_sheet_L93 K i1 n 0 (up (up Mb 87 i1.toNatClampNeg i2) 88 i1.toNatClampNeg 0))))) ∧ (¬ i3 ≤ 40 → wp_X8_errs (-1000000001) Mb (fun r5111 M5111 => K r5111 M5111)))
set_option maxRecDepth 100000 in
def wp_X8_sheet (i1 : Int32) (i2 : Int32) (i3 : Int32) (M : Mem) (K : Int32 → Mem → Prop) : Prop := wp_X8_isSheet i1 M (fun r1 M1 => (r1 = 0 → wp_X8_errs (-1000000001) M1 (fun r3 M3 => K r3 M3)) ∧ (¬ r1 = 0 → (i2 = 0 → (i2 = 0 → wp_X8_sheet_b51 K i1 i2 i3 M1) ∧ (¬ i2 = 0 → (0 ≤ i3 → wp_X8_sheet_b51 K i1 i2 i3 M1) ∧ (¬ 0 ≤ i3 → wp_X8_errs (-1000000003) M1 (fun r7 M7 => K r7 M7)))) ∧ (¬ i2 = 0 → (i2 = 8 → (i2 = 0 → wp_X8_sheet_b51 K i1 i2 i3 M1) ∧ (¬ i2 = 0 → (0 ≤ i3 → wp_X8_sheet_b51 K i1 i2 i3 M1) ∧ (¬ 0 ≤ i3 → wp_X8_errs (-1000000003) M1 (fun r11 M11 => K r11 M11)))) ∧ (¬ i2 = 8 → (i2 = 16 → (i2 = 0 → wp_X8_sheet_b51 K i1 i2 i3 M1) ∧ (¬ i2 = 0 → (0 ≤ i3 → wp_X8_sheet_b51 K i1 i2 i3 M1) ∧ (¬ 0 ≤ i3 → wp_X8_errs (-1000000003) M1 (fun r15 M15 => K r15 M15)))) ∧ (¬ i2 = 16 → (i2 = 32 → (i2 = 0 → wp_X8_sheet_b51 K i1 i2 i3 M1) ∧ (¬ i2 = 0 → (0 ≤ i3 → wp_X8_sheet_b51 K i1 i2 i3 M1) ∧ (¬ 0 ≤ i3 → wp_X8_errs (-1000000003) M1 (fun r19 M19 => K r19 M19)))) ∧ (¬ i2 = 32 → wp_X8_errs (-1000000001) M1 (fun r20 M20 => K r20 M20)))))))
set_option maxRecDepth 100000 in
def wp_X8_put (i1 : Int32) (i2 : Int32) (i3 : Int32) (M : Mem) (K : Int32 → Mem → Prop) : Prop := wp_X8_isSheet i1 M (fun r1 M1 => (¬ r1 = 0 → vp_in i1 4 ∧ ((¬ (M1 87 i1.toNatClampNeg) = 0 → vp_in i1 4 ∧ (wp_X8_in i2 0 ((M1 88 i1.toNatClampNeg) - 1) M1 (fun r6 M6 => (¬ r6 = 0 → vp_in i1 4 ∧ (wp_X8_narrow (M6 87 i1.toNatClampNeg) i3 M6 (fun r9 M9 => vp_in ((40 * i1) + i2) 160 ∧ (K 1 (up M9 89 ((40 * i1) + i2).toNatClampNeg r9))))) ∧ (r6 = 0 → wp_X8_errs (-1000000001) M6 (fun r11 M11 => K r11 M11))))) ∧ ((M1 87 i1.toNatClampNeg) = 0 → wp_X8_errs (-1000000002) M1 (fun r12 M12 => K r12 M12)))) ∧ (r1 = 0 → wp_X8_errs (-1000000001) M1 (fun r13 M13 => K r13 M13)))
set_option maxRecDepth 100000 in
def wp_X8_move_l156 (K : Int32 → Mem → Prop) (i3 : Int32) (i4 : Int32) (i5 : Int32) (B156 : Int32 → Mem → Prop) (i6 : Int32) (Mb : Mem) : Prop := (i5 ≤ i6 → K i5 Mb) ∧ (¬ i5 ≤ i6 → vp_in i6 40 ∧ (vp_in (((40 * i3) + i4) + i6) 160 ∧ (B156 (i6 + 1) (up Mb 89 (((40 * i3) + i4) + i6).toNatClampNeg (Mb 90 i6.toNatClampNeg)))))
set_option maxRecDepth 100000 in
def wp_X8_move_L156 (K : Int32 → Mem → Prop) (i3 : Int32) (i4 : Int32) (i5 : Int32) : Nat → Int32 → Mem → Prop
  | 0 => fun _ _ => False
  | n + 1 => wp_X8_move_l156 K i3 i4 i5 (wp_X8_move_L156 K i3 i4 i5 n)
set_option maxRecDepth 100000 in
def wp_X8_move_l119 (K : Int32 → Mem → Prop) (i1 : Int32) (i2 : Int32) (i3 : Int32) (i4 : Int32) (i5 : Int32) (B119 : Int32 → Mem → Prop) (i6 : Int32) (Mb : Mem) : Prop := (i5 ≤ i6 → ∃ n, wp_X8_move_L156 K i3 i4 i5 n 0 Mb) ∧ (¬ i5 ≤ i6 → vp_in (((40 * i1) + i2) + i6) 160 ∧ (vp_in i6 40 ∧ (B119 (i6 + 1) (up Mb 90 i6.toNatClampNeg (Mb 89 (((40 * i1) + i2) + i6).toNatClampNeg)))))
set_option maxRecDepth 100000 in
def wp_X8_move_L119 (K : Int32 → Mem → Prop) (i1 : Int32) (i2 : Int32) (i3 : Int32) (i4 : Int32) (i5 : Int32) : Nat → Int32 → Mem → Prop
  | 0 => fun _ _ => False
  | n + 1 => wp_X8_move_l119 K i1 i2 i3 i4 i5 (wp_X8_move_L119 K i1 i2 i3 i4 i5 n)
set_option maxRecDepth 100000 in
def wp_X8_move (i1 : Int32) (i2 : Int32) (i3 : Int32) (i4 : Int32) (i5 : Int32) (M : Mem) (K : Int32 → Mem → Prop) : Prop := wp_X8_isSheet i1 M (fun r1 M1 => (r1 = 0 → wp_X8_errs (-1000000001) M1 (fun r3 M3 => K r3 M3)) ∧ (¬ r1 = 0 → wp_X8_isSheet i3 M1 (fun r4 M4 => (¬ r4 = 0 → vp_in i1 4 ∧ (((M4 87 i1.toNatClampNeg) = 0 → wp_X8_errs (-1000000002) M4 (fun r8 M8 => K r8 M8)) ∧ (¬ (M4 87 i1.toNatClampNeg) = 0 → vp_in i3 4 ∧ ((¬ (M4 87 i3.toNatClampNeg) = 0 → vp_in i1 4 ∧ (vp_in i3 4 ∧ (((M4 87 i1.toNatClampNeg) = (M4 87 i3.toNatClampNeg) → (i5 < 0 → wp_X8_errs (-1000000001) M4 (fun r15 M15 => K r15 M15)) ∧ (¬ i5 < 0 → (i2 < 0 → wp_X8_errs (-1000000001) M4 (fun r17 M17 => K r17 M17)) ∧ (¬ i2 < 0 → (i4 < 0 → wp_X8_errs (-1000000001) M4 (fun r19 M19 => K r19 M19)) ∧ (¬ i4 < 0 → vp_in i1 4 ∧ ((((M4 88 i1.toNatClampNeg) - i5) < i2 → wp_X8_errs (-1000000001) M4 (fun r22 M22 => K r22 M22)) ∧ (¬ ((M4 88 i1.toNatClampNeg) - i5) < i2 → vp_in i3 4 ∧ ((i4 ≤ ((M4 88 i3.toNatClampNeg) - i5) → ∃ n, wp_X8_move_L119 K i1 i2 i3 i4 i5 n 0 M4) ∧ (¬ i4 ≤ ((M4 88 i3.toNatClampNeg) - i5) → wp_X8_errs (-1000000001) M4 (fun r25 M25 => K r25 M25))))))))) ∧ (¬ (M4 87 i1.toNatClampNeg) = (M4 87 i3.toNatClampNeg) → wp_X8_errs (-1000000005) M4 (fun r26 M26 => K r26 M26))))) ∧ ((M4 87 i3.toNatClampNeg) = 0 → wp_X8_errs (-1000000002) M4 (fun r27 M27 => K r27 M27)))))) ∧ (r4 = 0 → wp_X8_errs (-1000000001) M4 (fun r28 M28 => K r28 M28)))))
set_option maxRecDepth 100000 in
def wp_X8_edges_l32 (K : Int32 → Mem → Prop) (i1 : Int32) (B32 : Int32 → Mem → Prop) (i2 : Int32) (Mb : Mem) : Prop := vp_in i1 4 ∧ (((Mb 88 i1.toNatClampNeg) ≤ i2 → K i2 Mb) ∧ (¬ (Mb 88 i1.toNatClampNeg) ≤ i2 → wp_X8_isQuarrel i2 Mb (fun r3203 M3203 => (r3203 = 0 → K i2 M3203) ∧ (¬ r3203 = 0 → vp_in ((40 * i1) + i2) 160 ∧ (wp_X8_in (M3203 89 ((40 * i1) + i2).toNatClampNeg) 0 99 M3203 (fun r3206 M3206 => (r3206 = 0 → K i2 M3206) ∧ (¬ r3206 = 0 → vp_in ((40 * i1) + i2) 160 ∧ (wp_X8_gets i2 3 (M3206 89 ((40 * i1) + i2).toNatClampNeg) M3206 (fun M3209 => B32 (i2 + 1) M3209)))))))))
set_option maxRecDepth 100000 in
def wp_X8_edges_L32 (K : Int32 → Mem → Prop) (i1 : Int32) : Nat → Int32 → Mem → Prop
  | 0 => fun _ _ => False
  | n + 1 => wp_X8_edges_l32 K i1 (wp_X8_edges_L32 K i1 n)
set_option maxRecDepth 100000 in
def wp_X8_edges (i1 : Int32) (M : Mem) (K : Int32 → Mem → Prop) : Prop := wp_X8_isSheet i1 M (fun r1 M1 => (¬ r1 = 0 → vp_in i1 4 ∧ ((¬ (M1 87 i1.toNatClampNeg) = 0 → ∃ n, wp_X8_edges_L32 K i1 n 0 M1) ∧ ((M1 87 i1.toNatClampNeg) = 0 → wp_X8_errs (-1000000002) M1 (fun r5 M5 => K r5 M5)))) ∧ (r1 = 0 → wp_X8_errs (-1000000001) M1 (fun r6 M6 => K r6 M6)))
set_option maxRecDepth 100000 in
def wp_X8_judge_l32 (K : Int32 → Mem → Prop) (i1 : Int32) (B32 : Int32 → Mem → Prop) (i2 : Int32) (Mb : Mem) : Prop := ((Mb 80 2) ≤ i2 → (¬ i2 = (Mb 80 2) → K i2 Mb) ∧ (i2 = (Mb 80 2) → vp_in i1 4 ∧ ((¬ i2 = (Mb 88 i1.toNatClampNeg) → K i2 Mb) ∧ (i2 = (Mb 88 i1.toNatClampNeg) → K (-1) Mb)))) ∧ (¬ (Mb 80 2) ≤ i2 → vp_in i1 4 ∧ (((Mb 88 i1.toNatClampNeg) ≤ i2 → (¬ i2 = (Mb 80 2) → K i2 Mb) ∧ (i2 = (Mb 80 2) → vp_in i1 4 ∧ ((¬ i2 = (Mb 88 i1.toNatClampNeg) → K i2 Mb) ∧ (i2 = (Mb 88 i1.toNatClampNeg) → K (-1) Mb)))) ∧ (¬ (Mb 88 i1.toNatClampNeg) ≤ i2 → vp_in ((40 * i1) + i2) 160 ∧ (wp_X8_its i2 6 Mb (fun r3211 M3211 => (¬ (Mb 89 ((40 * i1) + i2).toNatClampNeg) = r3211 → (¬ i2 = (M3211 80 2) → K i2 M3211) ∧ (i2 = (M3211 80 2) → vp_in i1 4 ∧ ((¬ i2 = (M3211 88 i1.toNatClampNeg) → K i2 M3211) ∧ (i2 = (M3211 88 i1.toNatClampNeg) → K (-1) M3211)))) ∧ ((Mb 89 ((40 * i1) + i2).toNatClampNeg) = r3211 → B32 (i2 + 1) M3211))))))
set_option maxRecDepth 100000 in
def wp_X8_judge_L32 (K : Int32 → Mem → Prop) (i1 : Int32) : Nat → Int32 → Mem → Prop
  | 0 => fun _ _ => False
  | n + 1 => wp_X8_judge_l32 K i1 (wp_X8_judge_L32 K i1 n)
set_option maxRecDepth 100000 in
def wp_X8_judge (i1 : Int32) (M : Mem) (K : Int32 → Mem → Prop) : Prop := wp_X8_isSheet i1 M (fun r1 M1 => (¬ r1 = 0 → vp_in i1 4 ∧ ((¬ (M1 87 i1.toNatClampNeg) = 0 → ∃ n, wp_X8_judge_L32 K i1 n 0 M1) ∧ ((M1 87 i1.toNatClampNeg) = 0 → wp_X8_errs (-1000000002) M1 (fun r5 M5 => K r5 M5)))) ∧ (r1 = 0 → wp_X8_errs (-1000000001) M1 (fun r6 M6 => K r6 M6)))
set_option maxRecDepth 100000 in
def wp_X8_image (M : Mem) (K : Int32 → Mem → Prop) : Prop := wp_X8_moveAll 80 81 M (fun M1 => K ((up (up M1 79 3 1) 79 4 (((up M1 79 3 1) 79 4) + 1)) 79 4) (up (up M1 79 3 1) 79 4 (((up M1 79 3 1) 79 4) + 1)))
set_option maxRecDepth 100000 in
def wp_X8_restore (M : Mem) (K : Int32 → Mem → Prop) : Prop := (¬ (M 79 3) = 0 → wp_X8_moveAll 81 80 M (fun M2 => K (M2 80 0) M2)) ∧ ((M 79 3) = 0 → wp_X8_errs (-1000000002) M (fun r3 M3 => K r3 M3))
set_option maxRecDepth 100000 in
def wp_X8_tell (i1 : Int32) (M : Mem) (K : Int32 → Mem → Prop) : Prop := (¬ (M 80 4) = 20 → vp_in (124 + (M 80 4)) 244 ∧ (K ((up (up M 80 (124 + (M 80 4)).toNatClampNeg i1) 80 4 (((up M 80 (124 + (M 80 4)).toNatClampNeg i1) 80 4) + 1)) 80 4) (up (up M 80 (124 + (M 80 4)).toNatClampNeg i1) 80 4 (((up M 80 (124 + (M 80 4)).toNatClampNeg i1) 80 4) + 1)))) ∧ ((M 80 4) = 20 → wp_X8_errs (-1000000004) M (fun r3 M3 => K r3 M3))
set_option maxRecDepth 100000 in
def wp_X8_check_l30 (K : Int32 → Mem → Prop) (i1 : Int32) (B30 : Int32 → Int32 → Mem → Prop) (i2 : Int32) (i3 : Int32) (Mb : Mem) : Prop := (i1 ≤ i2 → wp_X8_moveAll 82 80 Mb (fun M3002 => (i3 = 0 → K (1 + i2) M3002) ∧ (¬ i3 = 0 → K 0 M3002))) ∧ (¬ i1 ≤ i2 → (i3 = 0 → wp_X8_moveAll 82 80 Mb (fun M3005 => (i3 = 0 → K (1 + i2) M3005) ∧ (¬ i3 = 0 → K 0 M3005))) ∧ (¬ i3 = 0 → wp_X8_oneDay 1 Mb (fun M3007 => wp_X8_overSet  M3007 (fun r3008 M3008 => wp_X8_bits r3008 M3008 (fun r3009 M3009 => vp_in (124 + i2) 244 ∧ ((¬ r3009 = (M3009 80 (124 + i2).toNatClampNeg) → B30 (i2 + 0) 0 M3009) ∧ (r3009 = (M3009 80 (124 + i2).toNatClampNeg) → B30 (i2 + 1) 1 M3009)))))))
set_option maxRecDepth 100000 in
def wp_X8_check_L30 (K : Int32 → Mem → Prop) (i1 : Int32) : Nat → Int32 → Int32 → Mem → Prop
  | 0 => fun _ _ _ => False
  | n + 1 => wp_X8_check_l30 K i1 (wp_X8_check_L30 K i1 n)
set_option maxRecDepth 100000 in
def wp_X8_check (M : Mem) (K : Int32 → Mem → Prop) : Prop := wp_X8_moveAll 80 82 (up M 80 4 0) (fun M1 => ∃ n, wp_X8_check_L30 K (M 80 4) n 0 1 M1)
set_option maxRecDepth 100000 in
def wp_X8_edgesOfAll_l4 (K : Int32 → Mem → Prop) (B4 : Int32 → Int32 → Mem → Prop) (i1 : Int32) (i2 : Int32) (Mb : Mem) : Prop := ((Mb 80 2) ≤ i2 → K i1 Mb) ∧ (¬ (Mb 80 2) ≤ i2 → wp_X8_its i2 3 Mb (fun r402 M402 => B4 (i1 + r402) (i2 + 1) M402))
set_option maxRecDepth 100000 in
def wp_X8_edgesOfAll_L4 (K : Int32 → Mem → Prop) : Nat → Int32 → Int32 → Mem → Prop
  | 0 => fun _ _ _ => False
  | n + 1 => wp_X8_edgesOfAll_l4 K (wp_X8_edgesOfAll_L4 K n)
set_option maxRecDepth 100000 in
def wp_X8_edgesOfAll (M : Mem) (K : Int32 → Mem → Prop) : Prop := ∃ n, wp_X8_edgesOfAll_L4 K  n 0 0 M
set_option maxRecDepth 100000 in
def wp_X8_count (i1 : Int32) (M : Mem) (K : Int32 → Mem → Prop) : Prop := (i1 = 0 → K (M 80 2) M) ∧ (¬ i1 = 0 → (i1 = 1 → K (M 80 0) M) ∧ (¬ i1 = 1 → (i1 = 2 → K (M 80 7) M) ∧ (¬ i1 = 2 → (i1 = 3 → K (M 80 8) M) ∧ (¬ i1 = 3 → (i1 = 4 → K (M 80 9) M) ∧ (¬ i1 = 4 → (i1 = 5 → K (M 80 10) M) ∧ (¬ i1 = 5 → (i1 = 6 → wp_X8_overSet  M (fun r8 M8 => K r8 M8)) ∧ (¬ i1 = 6 → (i1 = 7 → wp_X8_edgesOfAll  M (fun r10 M10 => K r10 M10)) ∧ (¬ i1 = 7 → (i1 = 8 → K (M 80 3) M) ∧ (¬ i1 = 8 → (i1 = 9 → K (M 80 4) M) ∧ (¬ i1 = 9 → (i1 = 10 → K (M 79 20) M) ∧ (¬ i1 = 10 → (i1 = 11 → K (M 80 1) M) ∧ (¬ i1 = 11 → wp_X8_errs (-1000000001) M (fun r15 M15 => K r15 M15)))))))))))))
set_option maxRecDepth 100000 in
def wp_X8_told (i1 : Int32) (M : Mem) (K : Int32 → Mem → Prop) : Prop := wp_X8_in i1 1 5 M (fun r1 M1 => (r1 = 0 → wp_X8_errs (-1000000001) M1 (fun r3 M3 => K r3 M3)) ∧ (¬ r1 = 0 → vp_in i1 6 ∧ (K (M1 83 i1.toNatClampNeg) M1)))
