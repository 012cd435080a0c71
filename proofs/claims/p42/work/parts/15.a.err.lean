/-! the counts of the ERRORS too -/
def erI (r : Int32) : Nat := (-1000000000 - r).toNatClampNeg
theorem pc_e {r : Int32} {i : Nat} {M : Mem} (hr : erI r = i) (hi : i ≠ 0) : PC (erI r) M (up M 78 i (M 78 i + 1)) := by rw [hr]; exact PC.er St.rf i hi
theorem pm_e {r : Int32} {i : Nat} {M : Mem} (hr : erI r = i) (hi : i ≠ 0) : PM (erI r) M (up M 83 i (M 83 i + 1)) := by rw [hr]; exact PM.er St.rf i hi
theorem pc_r {r r2 : Int32} {M M1 : Mem} (h : PC (erI r) M M1) (e : r = r2) : PC (erI r2) M M1 := by rw [← e]; exact h
theorem pm_r {r r2 : Int32} {M M1 : Mem} (h : PM (erI r) M M1) (e : r = r2) : PM (erI r2) M M1 := by rw [← e]; exact h
def KE (M : Mem) : Prop := KA M ∧ ∀ k : Nat, k < 6 → M 78 k = M 83 k
theorem KE.keep {M M1 : Mem} (h : KE M) (e : M1 92 = M 92) (h78 : M1 78 = M 78) (h83 : M1 83 = M 83) : KE M1 := ⟨h.1.keep e, fun k hk => by rw [h78, h83]; exact h.2 k hk⟩
def Inv3 (i : Nat) (M : Mem) : Prop := KE M ∧ (∃ (n b t : Nat) (V : Nat → Nat) (h : Nat → Int32), SA 1 80 n b t V h M) ∧ SH M ∧ VR M ∧ IM2 i M
theorem Inv3.inv2 {i : Nat} {M : Mem} (h : Inv3 i M) : Inv2 i M := ⟨h.1.1, h.2.1, h.2.2.1, h.2.2.2.1, h.2.2.2.2⟩
theorem Inv3.inv {i : Nat} {M : Mem} (h : Inv3 i M) : Inv i M := h.inv2.inv
theorem Inv3.next {i : Nat} {M : Mem} (h : Inv3 i M) : Inv3 (i + 1) M := ⟨h.1, h.2.1, h.2.2.1, h.2.2.2.1, h.2.2.2.2.keep rfl rfl rfl (fun _ _ _ _ _ => rfl) rfl⟩
theorem Inv3.rest {i : Nat} {M M2 : Mem} (hI : Inv3 i M) (hs : St (fun b => (decide (1 ≤ b) && decide (b ≤ 24)) || (decide (49 ≤ b) && decide (b ≤ 66)) || b == 78 || b == 79 || b == 80 || (decide (82 ≤ b) && decide (b ≤ 86)) || b == 90) M M2) (h3 : M2 79 3 = M 79 3) (h4 : M2 79 4 = M 79 4) (h20 : M2 79 20 = M 79 20) (h78 : M2 78 = M 78) (h83 : M2 83 = M 83) {n b t : Nat} {V : Nat → Nat} {h : Nat → Int32} (hN : SA 1 80 n b t V h M2) : Inv3 (i + 1) M2 :=
  ⟨hI.1.keep (hs _ rfl) h78 h83, (hI.inv2.rest hs h3 h4 h20 hN).2⟩
theorem Inv3.th {i e : Nat} {M M1 M2 : Mem} (hI : Inv3 i M) (h1 : PC e M M1) (h2 : PM e M1 M2) : Inv3 (i + 1) M2 := by
  refine ⟨⟨(hI.inv2.th h1.1 h2.1).1, fun k hk => ?_⟩, (hI.inv2.th h1.1 h2.1).2⟩
  have e1 : M2 78 = M1 78 := h2.1 78 rfl
  have e2 : M1 83 = M 83 := h1.1 83 rfl
  rw [e1, h1.2, h2.2, e2]
  unfold bmp
  split
  · exact hI.1.2 k hk
  · unfold upd
    split
    · next c => rw [hI.1.2 e (by omega)]
    · exact hI.1.2 k hk
theorem z_of4 {i : Nat} {M : Mem} {A : Ans} {W7 : Mem → (Int32 → Mem → Prop) → Prop} {W8 : Mem → (Int32 → Mem → Prop) → Prop} (hI : Inv3 i M) (h7 : ∀ K : Int32 → Mem → Prop, (∀ M1, PC A.2 M M1 → K A.1 M1) → W7 M K) (h8 : ∀ M1 : Mem, St SX M M1 → ∀ K : Int32 → Mem → Prop, (∀ M2, PM A.2 M1 M2 → K A.1 M2) → W8 M1 K) : W7 M (fun r1 M1 => W8 M1 (fun r2 M2 => r1 = r2 ∧ Inv3 (i + 1) M2)) :=
  h7 _ (fun M1 p1 => h8 M1 p1.1 _ (fun M2 p2 => ⟨rfl, hI.th p1 p2⟩))
theorem inv3_sh {i : Nat} {M M2 : Mem} (hI : Inv3 i M) (hs : ∀ c, (c < 70 ∨ 77 < c) → c ≠ 87 → c ≠ 88 → c ≠ 89 → c ≠ 90 → M2 c = M c) (hS : SH M2) : Inv3 (i + 1) M2 :=
  ⟨hI.1.keep (hs _ (by omega) (by omega) (by omega) (by omega) (by omega)) (hs _ (by omega) (by omega) (by omega) (by omega) (by omega)) (hs _ (by omega) (by omega) (by omega) (by omega) (by omega)), (inv2_sh hI.inv2 hs hS).2⟩
