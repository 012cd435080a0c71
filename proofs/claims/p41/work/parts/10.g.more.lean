def KindOK (x : Int32) : Prop := ∃ j : Nat, j ≤ 6 ∧ x = nI j
section QP
variable {n : Nat} {M : Mem} {K : Int32 → Mem → Prop}
/-- the arguments of a good quarrel -/
def QG (n : Nat) (km a e o : Int32) : Prop := (0 ≤ km.toInt ∧ km.toInt ≤ 69) ∧ (0 ≤ a.toInt ∧ a.toInt ≤ 9) ∧ (0 ≤ e.toInt ∧ e.toInt ≤ 99) ∧ (-1 ≤ o.toInt ∧ o.toInt ≤ (n : Int) - 1)
theorem p_quarrel {km a e o : Int32} (hC : CN n M)
    (hg : QG n km a e o → n < 9 → ∀ M1, St (fun b => b == 12 || b == 14 + n) M M1 → M1 12 3 = nI (n + 1) → M1 12 6 = M 12 6 → M1 (14 + n) 0 = km / 10 → M1 (14 + n) 1 = km - km / 10 * 10 → M1 (14 + n) 2 = a → M1 (14 + n) 6 = 0 → K (nI n) M1)
    (hb : ¬ QG n km a e o → ∀ M1, St SX M M1 → K (-1000000001) M1) (hf : QG n km a e o → n = 9 → ∀ M1, St SX M M1 → K (-1000000004) M1) : wp_X7_quarrel km a e o M K := by
  have hn := hC.1
  unfold wp_X7_quarrel wp_X7_isKindAndM
  have hB : ¬ QG n km a e o → wp_X7_refuse (-1000000001) M K := fun g => e7 1 (by decide) (by decide) (hb g _ (St.rf.up rfl))
  refine w7 0 69 (by decide) (by decide) (fun g1 g2 => ⟨Or.inr rfl, b1a ?_⟩) (fun g => ⟨Or.inl rfl, b0a (hB (fun h => g h.1))⟩)
  refine w7z 0 9 (by decide) (by decide) (fun g3 g4 => ?_) (fun g => hB (fun h => g h.2.1))
  refine w7z 0 99 (by decide) (by decide) (fun g5 g6 => ?_) (fun g => hB (fun h => g h.2.2.1))
  rw [hC.2.1]
  refine w7n (-1) ((n : Int) - 1) (by decide) (nI_m1 (by omega)) (fun g7 g8 => ?_) (fun g => hB (fun h => g h.2.2.2))
  have hq : QG n km a e o := ⟨⟨g1, g2⟩, ⟨g3, g4⟩, ⟨g5, g6⟩, g7, g8⟩
  rw [hC.2.1]
  refine pk_lt n 9 (fun q => ?_) (fun q => e7 4 (by decide) (by decide) (hf hq (by omega) _ (St.rf.up rfl)))
  refine ⟨vp_in_nI q (by decide), ?_⟩
  rw [nI_clamp (by omega)]
  unfold wp_X1_turnInto
  rintro _ rfl
  have hne : (12 : Nat) ≠ 14 + n := by omega
  have hne2 : 14 + n ≠ (12 : Nat) := by omega
  simp only [up_same, up_cell hne, hC.2.1]
  rw [nI_1, nI_pred]
  refine hg hq q _ ?_ up_same ?_ ?_ ?_ ?_ ?_
  · exact (((((((St.rf.up (by simp)).up (by simp)).up (by simp)).up (by simp)).up (by simp)).up (by simp)).up (by simp)).up (by simp)
  · rw [up_slot _ (by decide)]; simp only [up_cell hne]
  · rw [up_cell hne2]; simp [up]
  · rw [up_cell hne2]; simp [up]
  · rw [up_cell hne2]; simp [up]
  · rw [up_cell hne2]; simp [up]
theorem p_become {a km : Int32} (hC : CN n M) (hg : ∀ j : Nat, j < n → a = nI j → 0 ≤ km.toInt → km.toInt ≤ 69 → K (M (14 + j) 0) (up (up M (14 + j) 0 (km / 10)) (14 + j) 1 (km - km / 10 * 10)))
    (hb : ¬ ((0 ≤ a.toInt ∧ a.toInt < n) ∧ 0 ≤ km.toInt ∧ km.toInt ≤ 69) → ∀ M1, St SX M M1 → K (-1000000001) M1) : wp_X7_become a km M K := by
  have hn := hC.1
  unfold wp_X7_become
  refine q7z hC.1 hC.2.1 (fun j hj ej => ?_) (fun g => e7 1 (by decide) (by decide) (hb (fun h => g h.1) _ (St.rf.up rfl)))
  subst ej
  unfold wp_X7_isKindAndM
  refine w7 0 69 (by decide) (by decide) (fun g1 g2 => ⟨Or.inr rfl, b1b ?_⟩) (fun g => ⟨Or.inl rfl, b0b (e7 1 (by decide) (by decide) (hb (fun h => g h.2) _ (St.rf.up rfl)))⟩)
  rw [nI_clamp (by omega)]
  unfold wp_X1_turnInto
  exact ⟨vp_in_nI (by omega) (by decide), hg j hj rfl g1 g2⟩
theorem p_change {a b c : Int32} (hC : CN n M) (hg : ∀ j : Nat, j < n → a = nI j → b = 0 → 0 ≤ c.toInt → c.toInt ≤ 9 → ∀ r, K r (up M (14 + j) 2 c))
    (hk : ¬ ((0 ≤ a.toInt ∧ a.toInt < n) ∧ b = 0 ∧ 0 ≤ c.toInt ∧ c.toInt ≤ 9) → ∀ r M1, NX n 0 (M 1 5) (M 1 6) (M 1 7) M M1 → K r M1) : wp_X7_change a b c M K := by
  have hn := hC.1
  have he : ¬ ((0 ≤ a.toInt ∧ a.toInt < n) ∧ b = 0 ∧ 0 ≤ c.toInt ∧ c.toInt ≤ 9) → wp_X7_refuse (-1000000001) M K := fun g => e7 1 (by decide) (by decide) (hk g _ _ (NX.ofSX hC (St.rf.up rfl)))
  unfold wp_X7_change
  refine q7z hC.1 hC.2.1 (fun j hj ej => ?_) (fun g => he (fun h => g h.1))
  subst ej
  have ea : (0 ≤ (nI j).toInt ∧ (nI j).toInt < n) := by rw [nI_toInt (by omega)]; omega
  refine w7z 0 3 (by decide) (by decide) (fun g1 g2 => ?_) (fun g => he (fun h => g (by rw [h.2.1]; decide)))
  have hw : ∀ w : Int32, (b = 0 → w = 9) → wp_X7_isWithin c 0 w M (fun r8 M8 => (¬ r8 = 0 → vp_in (nI j) 9 ∧ (wp_X1_changeTo (14 + (nI j).toNatClampNeg) b c M8 (fun r15 M15 => K r15 M15))) ∧ (r8 = 0 → wp_X7_refuse (-1000000001) M8 (fun r16 M16 => K r16 M16))) := by
    intro w hw9
    refine w7n 0 w.toInt (by decide) rfl (fun g3 g4 => ?_) (fun g => he (fun h => g ⟨h.2.2.1, by rw [hw9 h.2.1]; exact h.2.2.2⟩))
    rw [nI_clamp (by omega)]
    refine ⟨vp_in_nI (by omega) (by decide), ?_⟩
    unfold wp_X1_changeTo
    refine ⟨fun e => ?_, fun e0 => ?_⟩
    · rw [hw9 e] at g4
      exact hg j hj rfl e g3 g4 _
    · have hk2 := hk (fun h => e0 h.2.1)
      have h0 := NX.of hC
      exact ⟨fun _ => hk2 _ _ (h0.upq (by omega) (by omega) (Or.inl (by omega))), fun _ => ⟨fun _ => ⟨fun _ => ⟨fun _ => hk2 _ _ (h0.upq (by omega) (by omega) (Or.inr (Or.inl rfl))), fun _ => hk2 _ _ (h0.upq (by omega) (by omega) (Or.inr (Or.inr rfl)))⟩, fun _ => ⟨fun _ => hk2 _ _ (h0.upq (by omega) (by omega) (Or.inr (Or.inl rfl))), fun _ => hk2 _ _ (h0.upq (by omega) (by omega) (Or.inr (Or.inr rfl)))⟩⟩, fun _ => hk2 _ _ (h0.upq (by omega) (by omega) (Or.inl (by omega)))⟩⟩
  unfold wp_X7_mostOfQuarrel
  exact ⟨fun _ => hw _ (fun _ => rfl), fun e => ⟨fun _ => hw _ (fun g => absurd g e), fun _ => ⟨fun _ => hw _ (fun g => absurd g e), fun _ => hw _ (fun g => absurd g e)⟩⟩⟩
/-- the row of the KINDS above -/
def KA (_ : Mem) : Prop := KAf 0 = -1 ∧ KAf 1 = 0 ∧ KAf 2 = 0 ∧ KAf 3 = 0 ∧ KAf 4 = 1 ∧ KAf 5 = 2 ∧ KAf 6 = 3
def above (k : Nat) : Nat := if k = 4 then 1 else if k = 5 then 2 else if k = 6 then 3 else 0
def isOf (k a : Nat) : Bool := a == k || a == above k || a == 0
theorem p_as {a b : Int32} (hC : CN n M) (hA : KA M) (hK : ∀ q : Nat, q < n → KindOK (M (14 + q) 0)) (hg : ∀ j k c : Nat, j < n → a = nI j → k ≤ 6 → M (14 + j) 0 = nI k → c ≤ 6 → b = nI c → (isOf k c = true → K (M (14 + j) 1) M) ∧ (isOf k c = false → ∀ M1, St SX M M1 → K (-1000000005) M1))
    (hb : ¬ ((0 ≤ a.toInt ∧ a.toInt < n) ∧ 0 ≤ b.toInt ∧ b.toInt ≤ 6) → ∀ M1, St SX M M1 → K (-1000000001) M1) : wp_X7_as a b M K := by
  have hn := hC.1
  unfold wp_X7_as
  refine q7z hC.1 hC.2.1 (fun j hj ej => ?_) (fun g => e7 1 (by decide) (by decide) (hb (fun h => g h.1) _ (St.rf.up rfl)))
  subst ej
  refine w7n 0 6 (by decide) (by decide) (fun g1 g2 => ?_) (fun g => e7 1 (by decide) (by decide) (hb (fun h => g h.2) _ (St.rf.up rfl)))
  obtain ⟨c, hc, rfl⟩ := nat_of (x := b) 6 g1 g2 (by decide)
  obtain ⟨k, hk, ek⟩ := hK j hj
  rw [nI_clamp (by omega)]
  refine ⟨vp_in_nI (by omega) (by decide), ?_⟩
  obtain ⟨hy, hno⟩ := hg j k c hj rfl hk ek hc rfl
  have yes : isOf k c = true → ((1 : Int32) = 0 → wp_X7_refuse (-1000000005) M (fun r13 M13 => K r13 M13)) ∧ (¬ (1 : Int32) = 0 → K (M (14 + j) 1) M) := fun h => b1a (hy h)
  have no : isOf k c = false → ((0 : Int32) = 0 → wp_X7_refuse (-1000000005) M (fun r13 M13 => K r13 M13)) ∧ (¬ (0 : Int32) = 0 → K (M (14 + j) 1) M) := fun h => b0a (e7 5 (by decide) (by decide) (hno h _ (St.rf.up rfl)))
  unfold wp_X1_isOfKind
  rw [ek, nI_clamp (by omega)]
  refine pk_eq c k (fun e => yes (by simp [isOf, e])) (fun e => ⟨vp_in_nI (by omega) (by decide), ?_⟩)
  obtain ⟨a0, a1, a2, a3, a4, a5, a6⟩ := hA
  have fin : ¬ c = above k → (¬ nI c = 0 → ((0 : Int32) = 0 → wp_X7_refuse (-1000000005) M (fun r13 M13 => K r13 M13)) ∧ (¬ (0 : Int32) = 0 → K (M (14 + j) 1) M)) ∧ (nI c = 0 → ((1 : Int32) = 0 → wp_X7_refuse (-1000000005) M (fun r13 M13 => K r13 M13)) ∧ (¬ (1 : Int32) = 0 → K (M (14 + j) 1) M)) := by
    intro e2
    refine ⟨fun e3 => no ?_, fun e3 => yes ?_⟩
    · have : c ≠ 0 := fun h => e3 (by rw [h]; rfl)
      simp [isOf, e, e2, this]
    · have : c = 0 := (nI_eq (by omega) (by omega)).mp (show nI c = nI 0 from e3)
      simp [isOf, this]
  rcases (by omega : k = 0 ∨ k = 1 ∨ k = 2 ∨ k = 3 ∨ k = 4 ∨ k = 5 ∨ k = 6) with rfl | rfl | rfl | rfl | rfl | rfl | rfl
  · rw [a0]
    exact ⟨fun h => absurd (show (nI c).toInt = -1 by rw [h]; rfl) (by rw [nI_toInt (by omega)]; omega), fun _ => fin (by simpa [above] using e)⟩
  · rw [a1]; exact pk_eq c 0 (fun h => yes (by simp [isOf, h])) (fun h => fin (by simpa [above] using h))
  · rw [a2]; exact pk_eq c 0 (fun h => yes (by simp [isOf, h])) (fun h => fin (by simpa [above] using h))
  · rw [a3]; exact pk_eq c 0 (fun h => yes (by simp [isOf, h])) (fun h => fin (by simpa [above] using h))
  · rw [a4]; exact pk_eq c 1 (fun h => yes (by simp [isOf, above, h])) (fun h => fin (by simpa [above] using h))
  · rw [a5]; exact pk_eq c 2 (fun h => yes (by simp [isOf, above, h])) (fun h => fin (by simpa [above] using h))
  · rw [a6]; exact pk_eq c 3 (fun h => yes (by simp [isOf, above, h])) (fun h => fin (by simpa [above] using h))
/-- a text copied -/
theorem cp_text {x0 x1 : Nat} {M : Mem} {K : Mem → Prop} (h0 : TF x0) (h1 : TF x1) (hd : x0 + 5 ≤ x1 ∨ x1 + 5 ≤ x0) (hT : TX x1 M) (hk : ∀ M1, St (fun b => decide (x0 ≤ b) && decide (b ≤ x0 + 3)) M M1 → TX x0 M1 → K M1) : wp_X4_copyFrom x0 x1 M K := by
  obtain ⟨a0, a1, a2, a3, b0, b1, b2, b3⟩ := h0
  obtain ⟨c0, c1, c2, c3, d0, d1, d2, d3⟩ := h1
  obtain ⟨z, hz, ez, hj⟩ := hT
  unfold wp_X4_copyFrom
  simp only [a0, a1, a2, c0, c1, c2, b0, b1, b2, d0, d1, d2, ez, nI_clamp (show z < 2 ^ 31 by omega)]
  have hp : ¬ nI z < 0 := nI_pos (by omega)
  have hz0 : (0 : Int32).toNatClampNeg + z ≤ 50 := by simp; omega
  refine ⟨by decide, by decide, hp, hz0, hz0, ?_⟩
  rintro _ rfl
  simp only [upA_cell (show x1 ≠ x0 + 1 by omega), ez, nI_clamp (show z < 2 ^ 31 by omega)]
  refine ⟨by decide, by decide, hp, hz0, hz0, ?_⟩
  rintro _ rfl
  simp only [upA_cell (show x1 ≠ x0 + 1 by omega), upA_cell (show x1 ≠ x0 + 2 by omega), ez, nI_clamp (show z < 2 ^ 31 by omega)]
  refine ⟨by decide, by decide, hp, hz0, hz0, ?_⟩
  rintro _ rfl
  simp only [up_cell (show x1 ≠ x0 by omega), upA_cell (show x1 ≠ x0 + 1 by omega), upA_cell (show x1 ≠ x0 + 2 by omega), upA_cell (show x1 ≠ x0 + 3 by omega), upA_cell (show x1 + 1 ≠ x0 + 1 by omega), upA_cell (show x1 + 2 ≠ x0 + 1 by omega), upA_cell (show x1 + 3 ≠ x0 + 1 by omega), upA_cell (show x1 + 2 ≠ x0 + 2 by omega), upA_cell (show x1 + 3 ≠ x0 + 2 by omega), upA_cell (show x0 + 2 ≠ x0 + 1 by omega), upA_cell (show x0 + 3 ≠ x0 + 1 by omega), upA_cell (show x0 + 3 ≠ x0 + 2 by omega), ez]
  refine hk _ (((((St.rf.upA (by simp)).upA (by simp)).upA (by simp)).up (by simp)).up (by simp)) ⟨z, hz, up_same, fun j hjz => ?_⟩
  simp only [up_cell (show x0 + 1 ≠ x0 by omega), up_cell (show x0 + 2 ≠ x0 by omega), up_cell (show x0 + 3 ≠ x0 by omega), upA_same, upA_cell (show x0 + 1 ≠ x0 + 2 by omega), upA_cell (show x0 + 1 ≠ x0 + 3 by omega), upA_cell (show x0 + 2 ≠ x0 + 3 by omega)]
  have hc : ∀ f g : Nat → Int32, va_cpy f g (0 : Int32).toNatClampNeg (0 : Int32).toNatClampNeg z j = f j := fun f g => by
    rw [pk_cpy_in (by simp) (by simp; omega)]; simp
  rw [hc, hc, hc]
  exact hj j hjz
theorem NX.text {n d : Nat} {b t z : Int32} {M M1 M2 : Mem} (h : NX n d b t z M M1) (hs : St (fun b => decide (2 ≤ b) && decide (b ≤ 10)) M1 M2) (h2 : TX 2 M2) (h7 : TX 7 M2) : NX n d b t z M M2 := by
  obtain ⟨g0, g1, g2, g3, g4, g5, g6, g7, g8, g9, g10⟩ := h
  have e1 : M2 1 = M1 1 := hs 1 rfl
  have e12 : M2 12 = M1 12 := hs 12 rfl
  have eq : ∀ q : Nat, M2 (14 + q) = M1 (14 + q) := fun q => hs _ (by simp <;> omega)
  exact ⟨g0, g1.tr (hs.w (by simp <;> omega)), by rw [e12]; exact g2, by rw [e12]; exact g3, by rw [e1]; exact g4, by rw [e1]; exact g5, by rw [e1]; exact g6, fun q hq => by rw [eq q]; exact g7 q hq, fun q hq => by rw [eq q]; exact g8 q hq, h2, h7⟩
theorem p_text {a : Int32} {b : Nat} (hb : b ≤ 50) (hC : CN n M) (hw : M 1 5 = nI b) (hg : 0 ≤ a.toInt → a.toInt ≤ 1 → ∀ r M1, NX n 0 0 (M 1 6) (M 1 7) M M1 → K r M1) (hk : ¬ (0 ≤ a.toInt ∧ a.toInt ≤ 1) → ∀ r M1, St SX M M1 → K r M1) : wp_X7_text a M K := by
  unfold wp_X7_text
  refine w7n 0 1 (by decide) (by decide) (fun g1 g2 => ?_) (fun g => e7b St.rf (hk g))
  rw [hw]
  refine p_read hb rfl (fun r M1 h1 hT => ?_)
  have hn0 : NX n 0 0 (M 1 6) (M 1 7) M (up M1 1 5 0) := NX.up1 (k := 5) ((NX.of hC).oth (h1.w (by simp <;> omega)))
  refine ⟨fun _ => ?_, fun _ => hg g1 g2 _ _ hn0⟩
  have hT1 : TX 61 (up M1 1 5 0) := hT.keep (up_o _ (by decide)) (up_o _ (by decide)) (up_o _ (by decide)) (up_o _ (by decide))
  unfold wp_X6_textOf
  refine ⟨fun _ => ⟨cl_t7, cp_text (x0 := 7) TF7 TF61 (by omega) hT1 (fun M2 h2 ht => ?_)⟩, fun _ => ⟨cl_t2, cp_text (x0 := 2) TF2 TF61 (by omega) hT1 (fun M2 h2 ht => ?_)⟩⟩
  · exact hg g1 g2 _ _ (hn0.text (h2.w (by simp <;> omega)) (hn0.2.2.2.2.2.2.2.2.2.1.keep (h2 _ rfl) (h2 _ rfl) (h2 _ rfl) (h2 _ rfl)) ht)
  · exact hg g1 g2 _ _ (hn0.text (h2.w (by simp <;> omega)) ht (hn0.2.2.2.2.2.2.2.2.2.2.keep (h2 _ rfl) (h2 _ rfl) (h2 _ rfl) (h2 _ rfl)))
/-- the sheets: how many numbers -/
def SHc (M : Mem) : Prop := ∀ j : Nat, j < 4 → ∃ z : Nat, z ≤ 40 ∧ M (70 + 2 * j) 2 = nI z
theorem rf_sh {j : Nat} (h : j < 4) : rf (70 + 2 * j) 0 = 71 + 2 * j := (by decide +kernel : ∀ j : Nat, j < 4 → rf (70 + 2 * j) 0 = 71 + 2 * j) j h
theorem ln_sh {j : Nat} (h : j < 4) : ln (71 + 2 * j) = 40 := (by decide +kernel : ∀ j : Nat, j < 4 → ln (71 + 2 * j) = 40) j h
theorem s7 {q : Int32} {M : Mem} {K : Int32 → Mem → Prop} (h1 : ∀ j : Nat, j < 4 → q = nI j → K 1 M) (h0 : ¬ (0 ≤ q.toInt ∧ q.toInt ≤ 3) → K 0 M) : wp_X7_isSheet q M K := by
  unfold wp_X7_isSheet
  refine w7 0 3 (by decide) (by decide) (fun g1 g2 => ⟨Or.inr rfl, ?_⟩) (fun g => ⟨Or.inl rfl, h0 g⟩)
  obtain ⟨j, hj, rfl⟩ := nat_of 3 g1 g2 (by decide)
  exact h1 j (by omega) rfl
theorem any_hasEdges {n x y z : Nat} {M : Mem} {K : Int32 → Mem → Prop} (hn : n ≤ 9) (hm : M 49 3 = nI n) (hx : rf x 0 = y) (hl : ln y = 40) (hz : z ≤ 40) (ez : M x 2 = nI z) (h : ∀ r, K r M) : wp_X0_hasEdges 49 x M K := by
  unfold wp_X0_hasEdges
  refine loopN (L := fun k i M' => wp_X0_hasEdges_L2 K 49 x k i M') n (fun _ M' => M' = M) ?_ 0 (Nat.zero_le _) rfl
  intro i M' k hi e ih
  subst e
  show wp_X0_hasEdges_l2 K 49 x (wp_X0_hasEdges_L2 K 49 x k) (nI i) M'
  unfold wp_X0_hasEdges_l2
  rw [hm, ez, hx, hl]
  refine ⟨fun _ => h _, fun q => ⟨fun _ => h _, fun q2 => ?_⟩⟩
  have hi2 : i < n := lt_of_nI q (by omega) (by omega)
  have hi3 : i < z := lt_of_nI q2 (by omega) (by omega)
  rw [nI_1]
  exact ⟨GF49.vp (by omega), vp_in_nI (by omega) (by decide), fun _ => ih _ hi2 rfl, fun _ => h _⟩
theorem p_sparks {a b : Int32} (hC : CN n M) (hS : SHc M) (hk : ∀ r M1, St SX M M1 → K r M1) : wp_X7_sparks a b M K := by
  unfold wp_X7_sparks
  refine s7 (fun j hj ej => b1a ?_) (fun _ => b0a (e7b St.rf hk))
  subst ej
  refine w7n 0 1 (by decide) (by decide) (fun g1 g2 => ⟨vp_in_nI hj (by decide), ?_⟩) (fun _ => e7b St.rf hk)
  rw [nI_clamp (by omega)]
  unfold wp_X3_isMissing
  refine ⟨fun _ => b0b ⟨fun _ => ?_, fun _ => e7n St.rf hk⟩, fun _ => b1b (e7n St.rf hk)⟩
  obtain ⟨z, hz, ez⟩ := hS j hj
  refine loopNA (L := fun k s i M' => wp_X7_sparks_L67 K b (70 + 2 * j) k s i M') 10 (fun _ _ M' => St SX M M') ?_ 0 (Nat.zero_le _) St.rf
  intro i s M' k hi hs ih
  show wp_X7_sparks_l67 K b (70 + 2 * j) (wp_X7_sparks_L67 K b (70 + 2 * j) k) s (nI i) M'
  unfold wp_X7_sparks_l67
  refine ⟨fun _ => ⟨fun _ => any_bitCount (fun _ => hk _ _ hs), fun _ => hk _ _ hs⟩, fun q => ?_⟩
  have hi2 : i < 10 := lt_of_nI (a := 10) q (by omega) (by omega)
  rw [nI_1]
  refine th_think hC hs (fun M1 h1 => th_pass hC (h1.upg (by omega)) (fun M2 h2 => any_hasEdges hC.1 h2.2.1 (rf_sh hj) (ln_sh hj) hz (by rw [h2.1 _ (by simp <;> omega)]; exact ez) (fun r => ⟨fun _ => ih _ _ hi2 h2.1, fun _ => ih _ _ hi2 h2.1⟩)))
/-- how many of the first m numbers are EDGES, up to the first that is not -/
def edgeN (f : Nat → Int32) : Nat → Nat
  | 0 => 0
  | m + 1 => if edgeN f m = m ∧ (0 ≤ (f m).toInt ∧ (f m).toInt ≤ 99) then m + 1 else edgeN f m
theorem edgeN_le (f : Nat → Int32) : ∀ m, edgeN f m ≤ m
  | 0 => Nat.le_refl _
  | m + 1 => by
    unfold edgeN
    have := edgeN_le f m
    by_cases h : edgeN f m = m ∧ (0 ≤ (f m).toInt ∧ (f m).toInt ≤ 99)
    · rw [if_pos h]; omega
    · rw [if_neg h]; omega
theorem edgeN_stop {f : Nat → Int32} {i : Nat} (h : edgeN f i = i) (hn : ¬ (0 ≤ (f i).toInt ∧ (f i).toInt ≤ 99)) : ∀ m, i ≤ m → edgeN f m = i
  | 0, hm => by have := edgeN_le f 0; have e : i = 0 := by omega
                subst e; exact h
  | m + 1, hm => by
    rcases Nat.lt_or_ge i (m + 1) with g | g
    · have e := edgeN_stop h hn m (by omega)
      unfold edgeN
      rw [if_neg (fun q => ?_)]
      · exact e
      · have : i = m := by omega
        subst this; exact hn q.2
    · have : i = m + 1 := by omega
      rw [← this]; exact h
theorem edgeN_congr {f g : Nat → Int32} : ∀ m : Nat, (∀ k, k < m → f k = g k) → edgeN f m = edgeN g m
  | 0, _ => rfl
  | m + 1, h => by
    unfold edgeN
    rw [edgeN_congr m (fun k hk => h k (by omega)), h m (by omega)]
theorem min_nI {a b : Nat} (ha : a < 2 ^ 30) (hb : b < 2 ^ 30) : (if nI a < nI b then nI a else nI b) = nI (min a b) := by
  by_cases h : a < b
  · rw [if_pos (nI_lt h (by omega)), Nat.min_eq_left (by omega)]
  · rw [if_neg (nI_nlt (by omega) (by omega)), Nat.min_eq_right (by omega)]
theorem p_edges {a : Int32} (hC : CN n M) (hS : SHc M) (hg : ∀ j z : Nat, j < 4 → a = nI j → M (70 + 2 * j) 2 = nI z → z ≤ 40 → ¬ M (70 + 2 * j) 1 = 0 → ∀ M1, NX n 0 (M 1 5) (M 1 6) (M 1 7) M M1 → K (nI (edgeN (M (71 + 2 * j)) (min n z))) M1)
    (hb : ¬ (0 ≤ a.toInt ∧ a.toInt ≤ 3) → ∀ M1, St SX M M1 → K (-1000000001) M1) (hm : ∀ j : Nat, j < 4 → a = nI j → M (70 + 2 * j) 1 = 0 → ∀ M1, St SX M M1 → K (-1000000002) M1) : wp_X7_edges a M K := by
  have hn := hC.1
  unfold wp_X7_edges
  refine s7 (fun j hj ej => b1b ?_) (fun g => b0b (e7 1 (by decide) (by decide) (hb g _ (St.rf.up rfl))))
  subst ej
  rw [nI_clamp (by omega)]
  refine ⟨vp_in_nI hj (by decide), ?_⟩
  unfold wp_X3_isMissing
  refine ⟨fun q => b0a ?_, fun q => b1a (e7 2 (by decide) (by decide) (hm j hj rfl q _ (St.rf.up rfl)))⟩
  obtain ⟨z, hz, ez⟩ := hS j hj
  rw [ez, hC.2.1, min_nI (by omega) (by omega)]
  rintro _ rfl
  refine loopN (L := fun k i M' => wp_X7_edges_L56 K (70 + 2 * j) (nI (min n z)) k i M') (min n z) (fun i M' => NX n 0 (M 1 5) (M 1 6) (M 1 7) M M' ∧ edgeN (M (71 + 2 * j)) i = i) ?_ 0 (Nat.zero_le _) ⟨NX.of hC, rfl⟩
  intro i M' k hi hs ih
  obtain ⟨hs, he⟩ := hs
  show wp_X7_edges_l56 K (70 + 2 * j) (nI (min n z)) (wp_X7_edges_L56 K (70 + 2 * j) (nI (min n z)) k) (nI i) M'
  unfold wp_X7_edges_l56
  have er : M' (71 + 2 * j) = M (71 + 2 * j) := hs.2.1 _ (by simp <;> omega)
  rw [rf_sh hj, ln_sh hj, er]
  refine ⟨fun q2 => ?_, fun q2 => ?_⟩
  · have : i = min n z := by have := le_of_nI q2 (by omega) (by omega); omega
    have h2 := hg j z hj rfl ez hz q _ hs
    rw [← this] at h2 ⊢
    rw [he] at h2
    exact h2
  · have hi2 : i < min n z := lt_of_nI q2 (by omega) (by omega)
    have hv : vp_in (nI i) 40 := vp_in_nI (by omega) (by decide)
    refine ⟨hv, ?_⟩
    rw [nI_clamp (by omega)]
    refine w7n 0 99 (by decide) (by decide) (fun g1 g2 => ⟨vp_in_nI (by omega) (by decide), hv, ?_⟩) (fun g => ?_)
    · rw [nI_1]
      refine ih _ hi2 ⟨hs.upq (by omega) (by omega) (Or.inl (by omega)), ?_⟩
      unfold edgeN
      rw [if_pos ⟨he, g1, g2⟩]
    · have h2 := hg j z hj rfl ez hz q _ hs
      rw [edgeN_stop he g _ (by omega)] at h2
      exact h2
theorem p_judge {a : Int32} (hC : CN n M) (hS : SHc M) (hk : ∀ r M1, St SX M M1 → K r M1) : wp_X7_judge a M K := by
  have hn := hC.1
  have h0 : ∀ r, K r M := fun r => hk _ _ St.rf
  unfold wp_X7_judge
  refine s7 (fun j hj ej => b1b ?_) (fun g => b0b (e7b St.rf hk))
  subst ej
  rw [nI_clamp (by omega)]
  refine ⟨vp_in_nI hj (by decide), ?_⟩
  unfold wp_X3_isMissing
  refine ⟨fun q => b0a ?_, fun q => b1a (e7n St.rf hk)⟩
  obtain ⟨z, hz, ez⟩ := hS j hj
  rw [ez, hC.2.1, min_nI (by omega) (by omega)]
  rintro _ rfl
  refine loopN (L := fun k i M' => wp_X7_judge_L56 K (70 + 2 * j) (nI (min n z)) k i M') (min n z) (fun i M' => M' = M) ?_ 0 (Nat.zero_le _) rfl
  intro i M' k hi e ih
  subst e
  show wp_X7_judge_l56 K (70 + 2 * j) (nI (min n z)) (wp_X7_judge_L56 K (70 + 2 * j) (nI (min n z)) k) (nI i) M'
  unfold wp_X7_judge_l56
  rw [rf_sh hj, ln_sh hj]
  refine ⟨fun _ => ⟨fun _ => h0 _, fun _ => h0 _⟩, fun q2 => ?_⟩
  have hi2 : i < min n z := lt_of_nI q2 (by omega) (by omega)
  rw [nI_1]
  exact ⟨vp_in_nI (by omega) (by decide), vp_in_nI (by omega) (by decide), fun _ => ih _ hi2 rfl, fun _ => h0 _⟩
/-- a row of zeros -/
theorem p_lay {x y : Nat} {b c : Int32} {M : Mem} {K : Mem → Prop} (hx : rf x 0 = y) (hl : ln y = 40) (hy : y = x + 1) (hk : ∀ M1, St (fun b => b == x || b == y) M M1 → M1 x 1 = b → M1 x 2 = c → (∀ k, k < 40 → M1 y k = 0) → K M1) : wp_X3_lay x b c M K := by
  unfold wp_X3_lay
  refine loopN (L := fun k i M' => wp_X3_lay_L12 K x k i M') 40 (fun i M' => St (fun b => b == x || b == y) M M' ∧ M' x 1 = b ∧ M' x 2 = c ∧ ∀ k, k < i → M' y k = 0) ?_ 0 (Nat.zero_le _) ⟨(St.rf.up (by simp)).up (by simp), by rw [up_slot _ (by decide), up_same], up_same, fun k hk => by omega⟩
  intro i M' k hi hs ih
  obtain ⟨h1, h2, h3, h4⟩ := hs
  show wp_X3_lay_l12 K x (wp_X3_lay_L12 K x k) (nI i) M'
  unfold wp_X3_lay_l12
  rw [hx, hl]
  refine ⟨fun q => hk _ h1 h2 h3 (fun k hk => h4 k (by have := le_of_nI (a := 40) q (by omega) (by omega); omega)), fun q => ?_⟩
  have hi2 : i < 40 := lt_of_nI (a := 40) q (by omega) (by omega)
  rw [nI_1, nI_clamp (by omega)]
  refine ⟨vp_in_nI hi2 (by decide), ih _ hi2 ⟨h1.up (by simp), by rw [up_cell (by omega)]; exact h2, by rw [up_cell (by omega)]; exact h3, fun k hk => ?_⟩⟩
  by_cases e : k = i
  · subst e; exact up_same
  · rw [up_slot _ e]; exact h4 k (by omega)
end QP
