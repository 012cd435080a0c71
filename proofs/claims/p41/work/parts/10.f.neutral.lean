theorem cl_t2 : Cl 2 4 := by unfold Cl; decide
theorem cl_t7 : Cl 7 4 := by unfold Cl; decide
/-- what a call may change of the class, but for: n stays, DAY moves by d, what b, t, z say; kinds, m, areas stay -/
abbrev CX (b : Nat) : Bool := (decide (1 ≤ b) && decide (b ≤ 24)) || (decide (49 ≤ b) && decide (b ≤ 66)) || b == 78
def NX (n d : Nat) (b t z : Int32) (M M1 : Mem) : Prop :=
  n ≤ 9 ∧ St CX M M1 ∧ M1 12 3 = nI n ∧ M1 12 6 = M 12 6 + nI d ∧ M1 1 5 = b ∧ M1 1 6 = t ∧ M1 1 7 = z ∧
  (∀ q : Nat, q < 9 → M1 (14 + q) 0 = M (14 + q) 0 ∧ M1 (14 + q) 1 = M (14 + q) 1 ∧ M1 (14 + q) 2 = M (14 + q) 2) ∧ (∀ q : Nat, q < n → BoolOK (M1 (14 + q) 6)) ∧ TX 2 M1 ∧ TX 7 M1
theorem NX.of {n : Nat} {M : Mem} (hC : CN n M) : NX n 0 (M 1 5) (M 1 6) (M 1 7) M M := ⟨hC.1, St.rf, hC.2.1, (Int32.add_zero _).symm, rfl, rfl, rfl, fun _ _ => ⟨rfl, rfl, rfl⟩, hC.2.2.1, hC.2.2.2.1, hC.2.2.2.2⟩
theorem NX.sx {n d : Nat} {b t z : Int32} {M M1 M2 : Mem} (h : NX n d b t z M M1) (hs : St SX M1 M2) : NX n d b t z M M2 := by
  obtain ⟨h0, h1, h2, h3, h4, h5, h6, h7, h8, h9, h10⟩ := h
  have e1 : M2 1 = M1 1 := hs 1 rfl
  have e12 : M2 12 = M1 12 := hs 12 rfl
  have eq : ∀ q : Nat, q < 9 → M2 (14 + q) = M1 (14 + q) := fun q hq => hs _ (by simp <;> omega)
  exact ⟨h0, h1.tr (hs.w (by simp <;> omega)), by rw [e12]; exact h2, by rw [e12]; exact h3, by rw [e1]; exact h4, by rw [e1]; exact h5, by rw [e1]; exact h6, fun q hq => by rw [eq q hq]; exact h7 q hq, fun q hq => by rw [eq q (by omega)]; exact h8 q hq, h9.keep (hs _ rfl) (hs _ rfl) (hs _ rfl) (hs _ rfl), h10.keep (hs _ rfl) (hs _ rfl) (hs _ rfl) (hs _ rfl)⟩
theorem NX.ofSX {n : Nat} {M M1 : Mem} (hC : CN n M) (hs : St SX M M1) : NX n 0 (M 1 5) (M 1 6) (M 1 7) M M1 := (NX.of hC).sx hs
/-- a number of the object itself -/
theorem NX.up1 {n d k : Nat} {b t z x : Int32} {M M1 : Mem} (h : NX n d b t z M M1) : NX n d (if k = 5 then x else b) (if k = 6 then x else t) (if k = 7 then x else z) M (up M1 1 k x) := by
  obtain ⟨h0, h1, h2, h3, h4, h5, h6, h7, h8, h9, h10⟩ := h
  have hf : ∀ j y, M1 1 j = y → up M1 1 k x 1 j = if k = j then x else y := fun j y e => by
    by_cases g : k = j
    · subst g; rw [if_pos rfl, up_same]
    · rw [if_neg g, up_slot _ (fun e => g e.symm)]; exact e
  exact ⟨h0, h1.up rfl, by rw [up_cell (by decide)]; exact h2, by rw [up_cell (by decide)]; exact h3, hf _ _ h4, hf _ _ h5, hf _ _ h6, fun q hq => by
    simp only [up_cell (show 14 + q ≠ 1 by omega)]; exact h7 q hq, fun q hq => by rw [up_cell (by omega)]; exact h8 q hq, h9.keep (up_o _ (by decide)) (up_o _ (by decide)) (up_o _ (by decide)) (up_o _ (by decide)), h10.keep (up_o _ (by decide)) (up_o _ (by decide)) (up_o _ (by decide)) (up_o _ (by decide))⟩
/-- the ground's numbers -/
theorem NX.up12 {n d k : Nat} {b t z x : Int32} {M M1 : Mem} (h : NX n d b t z M M1) (hk : k ≠ 3) (hk2 : k ≠ 6) : NX n d b t z M (up M1 12 k x) := by
  obtain ⟨h0, h1, h2, h3, h4, h5, h6, h7, h8, h9, h10⟩ := h
  exact ⟨h0, h1.up rfl, by rw [up_slot _ (Ne.symm hk)]; exact h2, by rw [up_slot _ (Ne.symm hk2)]; exact h3, by rw [up_cell (by decide)]; exact h4, by rw [up_cell (by decide)]; exact h5, by rw [up_cell (by decide)]; exact h6, fun q hq => by
    simp only [up_cell (show 14 + q ≠ 12 by omega)]; exact h7 q hq, fun q hq => by rw [up_cell (by omega)]; exact h8 q hq, h9.keep (up_o _ (by decide)) (up_o _ (by decide)) (up_o _ (by decide)) (up_o _ (by decide)), h10.keep (up_o _ (by decide)) (up_o _ (by decide)) (up_o _ (by decide)) (up_o _ (by decide))⟩
/-- a one's numbers but kind, m, area -/
theorem NX.upq {n d k j : Nat} {b t z x : Int32} {M M1 : Mem} (h : NX n d b t z M M1) (hj : j < 9) (hk : 3 ≤ k) (hx : k ≠ 6 ∨ BoolOK x) : NX n d b t z M (up M1 (14 + j) k x) := by
  obtain ⟨h0, h1, h2, h3, h4, h5, h6, h7, h8, h9, h10⟩ := h
  refine ⟨h0, h1.up (by simp <;> omega), by rw [up_cell (by omega)]; exact h2, by rw [up_cell (by omega)]; exact h3, by rw [up_cell (by omega)]; exact h4, by rw [up_cell (by omega)]; exact h5, by rw [up_cell (by omega)]; exact h6, fun q hq => ?_, fun q hq => ?_, h9.keep (up_o _ (by omega)) (up_o _ (by omega)) (up_o _ (by omega)) (up_o _ (by omega)), h10.keep (up_o _ (by omega)) (up_o _ (by omega)) (up_o _ (by omega)) (up_o _ (by omega))⟩
  · rw [up_slot _ (by omega), up_slot _ (by omega), up_slot _ (by omega)]; exact h7 q hq
  · by_cases e : q = j ∧ k = 6
    · obtain ⟨rfl, rfl⟩ := e
      rw [up_same]; exact hx.resolve_left (fun g => g rfl)
    · by_cases e2 : q = j
      · subst e2; rw [up_slot _ (fun g => e ⟨rfl, g.symm⟩)]; exact h8 q hq
      · rw [up_cell (by omega)]; exact h8 q hq
/-- a day -/
theorem NX.day {n d d2 : Nat} {b t z : Int32} {M M1 M2 : Mem} (h : NX n d b t z M M1) (hd : DR 12 n d2 M1 M2) : NX n (d + d2) b t z M M2 := by
  obtain ⟨h0, h1, h2, h3, h4, h5, h6, h7, h8, h9, h10⟩ := h
  have e1 : M2 1 = M1 1 := hd.1 1 rfl
  refine ⟨h0, h1.tr (hd.1.w (by simp <;> omega)), hd.2.1, by rw [hd.2.2.2.1, h3, Int32.add_assoc, nI_add], by rw [e1]; exact h4, by rw [e1]; exact h5, by rw [e1]; exact h6, fun q hq => ?_, hd.2.2.2.2.1, hd.tx GF12 (Or.inl rfl) h9, hd.tx GF12 (Or.inr rfl) h10⟩
  obtain ⟨a0, a1, a2, -⟩ := hd.2.2.2.2.2 q hq
  obtain ⟨b0, b1, b2⟩ := h7 q hq
  exact ⟨a0.trans b0, a1.trans b1, a2.trans b2⟩
/-- other rows -/
theorem NX.oth {n d : Nat} {b t z : Int32} {M M1 M2 : Mem} (h : NX n d b t z M M1) (hs : St (fun b => b == 23 || b == 24 || (decide (60 ≤ b) && decide (b ≤ 66))) M1 M2) : NX n d b t z M M2 := by
  obtain ⟨h0, h1, h2, h3, h4, h5, h6, h7, h8, h9, h10⟩ := h
  have e1 : M2 1 = M1 1 := hs 1 rfl
  have e12 : M2 12 = M1 12 := hs 12 rfl
  have eq : ∀ q : Nat, q < 9 → M2 (14 + q) = M1 (14 + q) := fun q hq => hs _ (by simp <;> omega)
  exact ⟨h0, h1.tr (hs.w (by simp <;> omega)), by rw [e12]; exact h2, by rw [e12]; exact h3, by rw [e1]; exact h4, by rw [e1]; exact h5, by rw [e1]; exact h6, fun q hq => by rw [eq q hq]; exact h7 q hq, fun q hq => by rw [eq q (by omega)]; exact h8 q hq, h9.keep (hs _ rfl) (hs _ rfl) (hs _ rfl) (hs _ rfl), h10.keep (hs _ rfl) (hs _ rfl) (hs _ rfl) (hs _ rfl)⟩
section NP
variable {n : Nat} {M : Mem} {K : Int32 → Mem → Prop}
theorem p_set {a b : Int32} (hC : CN n M) (hk : ∀ r M1, NX n 0 (M 1 5) (M 1 6) (M 1 7) M M1 → K r M1) : wp_X7_set a b M K := by
  have he : ∀ r M1, St SX M M1 → K r M1 := fun r M1 h => hk _ _ (NX.ofSX hC h)
  unfold wp_X7_set
  refine w7z 0 3 (by decide) (by decide) (fun g1 g2 => ?_) (fun _ => e7b St.rf he)
  have hb : ∀ w : Int32, wp_X7_isWithin b 0 w M (fun r5 M5 => (¬ r5 = 0 → wp_X0_setGrinder 12 a b M5 (fun r9 M9 => K r9 M9)) ∧ (r5 = 0 → wp_X7_refuse (-1000000001) M5 (fun r10 M10 => K r10 M10))) := by
    intro w
    refine w7n 0 w.toInt (by decide) rfl (fun _ _ => ?_) (fun _ => e7b St.rf he)
    unfold wp_X0_setGrinder
    refine ⟨fun _ => hk _ _ ((NX.of hC).up12 (by decide) (by decide)), fun _ => ⟨fun _ => hk _ _ ((NX.of hC).up12 (by decide) (by decide)), fun _ => ⟨fun _ => hk _ _ ((NX.of hC).up12 (by decide) (by decide)), fun _ => hk _ _ ((NX.of hC).up12 (by decide) (by decide))⟩⟩⟩
  unfold wp_X7_mostOfGrinder
  exact ⟨fun _ => hb _, fun _ => ⟨fun _ => hb _, fun _ => ⟨fun _ => hb _, fun _ => hb _⟩⟩⟩
/-- which areas a set of those in an area tells -/
def setIn (f : Nat → Int32) (a : Int32) : Nat → Int32
  | 0 => 0
  | k + 1 => if f k = a then setIn f a k ||| ((1 : Int32) <<< (nI k &&& 31)) else setIn f a k ||| 0
theorem p_inArea {a : Int32} (hC : CN n M) (hg : 0 ≤ a.toInt → a.toInt ≤ 9 → K (setIn (fun q => M (14 + q) 2) a n) M) (hb : ¬ (0 ≤ a.toInt ∧ a.toInt ≤ 9) → ∀ M1, St SX M M1 → K (-1000000001) M1) : wp_X7_inArea a M K := by
  have hn := hC.1
  unfold wp_X7_inArea
  refine w7n 0 9 (by decide) (by decide) (fun g1 g2 => ?_) (fun g => e7 1 (by decide) (by decide) (hb g _ (St.rf.up rfl)))
  unfold wp_X0_setInArea
  refine loopNA (L := fun k s i M' => wp_X0_setInArea_L4 (fun r5 M5 => K r5 M5) 12 a k s i M') n (fun i s M' => s = setIn (fun q => M (14 + q) 2) a i ∧ M' = M) ?_ 0 (Nat.zero_le _) ⟨rfl, rfl⟩
  intro i s M' k hi e ih
  obtain ⟨rfl, rfl⟩ := e
  show wp_X0_setInArea_l4 (fun r5 M5 => K r5 M5) 12 a (wp_X0_setInArea_L4 (fun r5 M5 => K r5 M5) 12 a k) _ (nI i) M'
  unfold wp_X0_setInArea_l4
  rw [hC.2.1]
  refine ⟨fun q => ?_, fun q => ?_⟩
  · have : i = n := by have := le_of_nI q (by omega) (by omega); omega
    subst this
    exact hg g1 g2
  · have hi2 : i < n := lt_of_nI q (by omega) (by omega)
    rw [nI_1, GF12.one (by omega)]
    refine ⟨GF12.vp (by omega), fun e => ih _ _ hi2 ⟨?_, rfl⟩, fun e => ih _ _ hi2 ⟨?_, rfl⟩⟩
    · show _ = setIn (fun q => M' (14 + q) 2) a (i + 1)
      rw [setIn, if_neg e]
    · show _ = setIn (fun q => M' (14 + q) 2) a (i + 1)
      rw [setIn, if_pos e]
theorem p_ofQuarrel {a b : Int32} (hC : CN n M) (hk : ∀ r M1, St SX M M1 → K r M1) : wp_X7_ofQuarrel a b M K := by
  have hn := hC.1
  unfold wp_X7_ofQuarrel
  refine q7z hC.1 hC.2.1 (fun j hj ej => ?_) (fun _ => e7b St.rf hk)
  subst ej
  refine w7n 0 9 (by decide) (by decide) (fun g1 g2 => ?_) (fun _ => e7b St.rf hk)
  rw [nI_clamp (by omega)]
  refine ⟨vp_in_nI (by omega) (by decide), ?_⟩
  have h0 : ∀ r, K r M := fun r => hk _ _ St.rf
  refine ⟨fun _ => h0 _, fun _ => ⟨fun _ => h0 _, fun _ => ⟨fun _ => h0 _, fun _ => ⟨fun _ => h0 _, fun _ => ⟨fun _ => h0 _, fun _ => ⟨fun _ => ⟨fun _ => h0 _, fun _ => h0 _⟩, fun _ => ⟨fun _ => h0 _, fun _ => ⟨fun _ => ?_, fun _ => ⟨fun _ => any_needs (fun r => h0 _), fun _ => any_dulls (fun r => h0 _)⟩⟩⟩⟩⟩⟩⟩⟩⟩
  unfold wp_X0_gainsOf
  exact any_gives TF2 hC.2.2.2.1 (fun r M1 h1 => any_gains (fun r2 => hk _ _ (h1.w (by simp <;> omega))))
theorem p_law {a b c d : Int32} (hC : CN n M) (hk : ∀ r M1, St SX M M1 → K r M1) : wp_X7_law a b c d M K := by
  unfold wp_X7_law
  refine w7n 0 1 (by decide) (by decide) (fun g1 g2 => ?_) (fun _ => e7b St.rf hk)
  unfold wp_X6_textOf
  exact ⟨fun _ => ⟨cl_t7, any_gives TF7 hC.2.2.2.2 (fun r M1 h1 => hk _ _ (h1.w (by simp <;> omega)))⟩, fun _ => ⟨cl_t2, any_gives TF2 hC.2.2.2.1 (fun r M1 h1 => hk _ _ (h1.w (by simp <;> omega)))⟩⟩
theorem p_count {a : Int32} (hC : CN n M) (hk : ∀ r M1, St SX M M1 → K r M1) : wp_X7_count a M K := by
  have h0 : ∀ r, K r M := fun r => hk _ _ St.rf
  unfold wp_X7_count
  exact ⟨fun _ => h0 _, fun _ => ⟨fun _ => h0 _, fun _ => ⟨fun _ => h0 _, fun _ => ⟨fun _ => h0 _, fun _ => ⟨fun _ => h0 _, fun _ => ⟨fun _ => h0 _, fun _ => ⟨fun _ => any_setEnded GF12 hC.1 hC.2.1 (fun r => h0 _), fun _ => ⟨fun _ => any_edgesTogether GF12 hC.1 hC.2.1 (fun r => h0 _), fun _ => ⟨fun _ => h0 _, fun _ => ⟨fun _ => h0 _, fun _ => ⟨fun _ => h0 _, fun _ => ⟨fun _ => h0 _, fun _ => e7b St.rf hk⟩⟩⟩⟩⟩⟩⟩⟩⟩⟩⟩⟩
theorem p_told {a : Int32} (hk : ∀ r M1, St SX M M1 → K r M1) : wp_X7_told a M K := by
  unfold wp_X7_told
  refine w7z 1 5 (by decide) (by decide) (fun g1 g2 => ?_) (fun _ => e7b St.rf hk)
  obtain ⟨j, hj, rfl⟩ := nat_of (x := a) 5 (by omega) g2 (by decide)
  exact ⟨vp_in_nI (by omega) (by decide), hk _ _ St.rf⟩
theorem p_days {a : Int32} (hC : CN n M) (hg : ∀ N : Nat, 1 ≤ N → N ≤ 60 → a = nI N → M 12 6 + a ≤ 9999 → ∀ r M1, NX n N (M 1 5) (M 1 6) (M 1 7) M M1 → K r M1) (hk : ¬ (1 ≤ a.toInt ∧ a.toInt ≤ 60 ∧ M 12 6 + a ≤ 9999) → ∀ r M1, St SX M M1 → K r M1) : wp_X7_days a M K := by
  have hn := hC.1
  unfold wp_X7_days
  refine w7n 1 60 (by decide) (by decide) (fun g1 g2 => ⟨fun g3 => ?_, fun g3 => ?_⟩) (fun g => e7b St.rf (hk (fun g4 => g ⟨g4.1, g4.2.1⟩)))
  · obtain ⟨N, hN, rfl⟩ := nat_of (x := a) 60 (by omega) g2 (by decide)
    rw [nI_toInt (by omega)] at g1
    refine loopN (L := fun k i M' => wp_X7_days_L44 K (nI N) k i M') N (fun i M' => NX n i (M 1 5) (M 1 6) (M 1 7) M M') ?_ 0 (Nat.zero_le _) (NX.of hC)
    intro i M' k hi hs ih
    show wp_X7_days_l44 K (nI N) (wp_X7_days_L44 K (nI N) k) (nI i) M'
    unfold wp_X7_days_l44
    refine ⟨fun q => ?_, fun q => ?_⟩
    · have : i = N := by have := le_of_nI q (by omega) (by omega); omega
      subst this
      exact any_endedMany GF12 hn hs.2.2.1 (fun r => hg i (by omega) hN rfl g3 _ _ hs)
    · rw [nI_1]
      exact day_pass GF12 hn hs.2.2.2.2.2.2.2.2.2.1 hs.2.2.2.2.2.2.2.2.2.2 (DR.rf hs.2.2.1 hs.2.2.2.2.2.2.2.2.1) (fun M1 h1 => ih _ (lt_of_nI q (by omega) (by omega)) (hs.day h1))
  · exact e7 3 (by decide) (by decide) (hk (fun g4 => g3 g4.2.2) _ _ (St.rf.up rfl))
/-- z, drawn k times -/
def zdraw : Nat → Int32 → Int32
  | 0, z => z
  | k + 1, z => zdraw k z * 1103515245 + 12345
theorem p_loose {a : Int32} (hC : CN n M) (hg : ∀ N : Nat, 1 ≤ N → N ≤ 40 → a = nI N → M 12 6 + a ≤ 9999 → ∀ r M1, NX n N (M 1 5) (M 1 6) (zdraw N (M 1 7)) M M1 → K r M1) (hk : ¬ (1 ≤ a.toInt ∧ a.toInt ≤ 40 ∧ M 12 6 + a ≤ 9999) → ∀ r M1, St SX M M1 → K r M1) : wp_X7_loose a M K := by
  have hn := hC.1
  unfold wp_X7_loose
  refine w7n 1 40 (by decide) (by decide) (fun g1 g2 => ⟨fun g3 => ?_, fun g3 => ?_⟩) (fun g => e7b St.rf (hk (fun g4 => g ⟨g4.1, g4.2.1⟩)))
  · obtain ⟨N, hN, rfl⟩ := nat_of (x := a) 40 (by omega) g2 (by decide)
    rw [nI_toInt (by omega)] at g1
    refine loopN (L := fun k i M' => wp_X7_loose_L44 K (nI N) k i M') N (fun i M' => NX n i (M 1 5) (M 1 6) (zdraw i (M 1 7)) M M') ?_ 0 (Nat.zero_le _) (NX.of hC)
    intro i M' k hi hs ih
    show wp_X7_loose_l44 K (nI N) (wp_X7_loose_L44 K (nI N) k) (nI i) M'
    unfold wp_X7_loose_l44
    refine ⟨fun q => ?_, fun q => ?_⟩
    · have : i = N := by have := le_of_nI q (by omega) (by omega); omega
      subst this
      exact any_endedMany GF12 hn hs.2.2.1 (fun r => hg i (by omega) hN rfl g3 _ _ hs)
    · rw [nI_1]
      unfold wp_X6_draw
      have hz : M' 1 7 = zdraw i (M 1 7) := hs.2.2.2.2.2.2.1
      rw [hz]
      have h2 := (hs.up1 (k := 7) (x := zdraw i (M 1 7) * 1103515245 + 12345)).up12 (k := 5) (x := ((((up M' 1 7 (zdraw i (M 1 7) * 1103515245 + 12345)) 1 7).toUInt32 >>> ((8 : Int32).toUInt32 &&& Int32.toUInt32 31)).toInt32) - ((((up M' 1 7 (zdraw i (M 1 7) * 1103515245 + 12345)) 1 7).toUInt32 >>> ((8 : Int32).toUInt32 &&& Int32.toUInt32 31)).toInt32) / 10 * 10) (by decide) (by decide)
      exact day_pass GF12 hn h2.2.2.2.2.2.2.2.2.2.1 h2.2.2.2.2.2.2.2.2.2.2 (DR.rf h2.2.2.1 h2.2.2.2.2.2.2.2.2.1) (fun M1 h1 => ih _ (lt_of_nI q (by omega) (by omega)) (h2.day h1))
  · exact e7 3 (by decide) (by decide) (hk (fun g4 => g3 g4.2.2) _ _ (St.rf.up rfl))
theorem p_seed {a : Int32} (hC : CN n M) (hk : ∀ M1, NX n 0 (M 1 5) (M 1 6) a M M1 → K (M 1 7) M1) : wp_X7_seed a M K := by
  unfold wp_X7_seed
  exact hk _ (NX.up1 (k := 7) (NX.of hC))
theorem p_check {t : Nat} (ht : t ≤ 20) (hC : CN n M) (hw : M 1 6 = nI t) (hk : ∀ r M1, NX n 0 (M 1 5) 0 (M 1 7) M M1 → K r M1) : wp_X7_check M K := by
  have hn := hC.1
  unfold wp_X7_check
  have h0 : NX n 0 (M 1 5) 0 (M 1 7) M (up M 1 6 0) := NX.up1 (k := 6) (NX.of hC)
  have hC1 : CN n (up M 1 6 0) := ⟨h0.1, h0.2.2.1, h0.2.2.2.2.2.2.2.2.1, h0.2.2.2.2.2.2.2.2.2.1, h0.2.2.2.2.2.2.2.2.2.2⟩
  refine th_think hC1 St.rf (fun M1 h1 => ?_)
  rw [hw]
  refine loopN (L := fun k i M' => wp_X7_check_L22 K (nI t) k i M') t (fun _ M' => T49 n (up M 1 6 0) M') ?_ 0 (Nat.zero_le _) h1
  intro i M' k hi hs ih
  show wp_X7_check_l22 K (nI t) (wp_X7_check_L22 K (nI t) k) (nI i) M'
  unfold wp_X7_check_l22
  refine ⟨fun _ => hk _ _ (h0.sx hs.1), fun q => ?_⟩
  have hi2 : i < t := lt_of_nI q (by omega) (by omega)
  rw [nI_1]
  exact th_pass hC1 hs (fun M2 h2 => ⟨vp_in_nI (by omega) (by decide), any_endedMany GF49 hn h2.2.1 (fun r => ⟨fun _ => ih _ hi2 h2, fun _ => hk _ _ (h0.sx h2.1)⟩)⟩)
theorem p_tell {a : Int32} {t : Nat} (ht : t ≤ 20) (hC : CN n M) (hw : M 1 6 = nI t) (hg : t < 20 → ∀ M1, NX n 0 (M 1 5) (nI (t + 1)) (M 1 7) M M1 → K (nI (t + 1)) M1) (hk : t = 20 → ∀ M1, St SX M M1 → K (-1000000004) M1) : wp_X7_tell a M K := by
  unfold wp_X7_tell
  rw [hw]
  refine ⟨fun q => ?_, fun q => ?_⟩
  · have h20 : t < 20 := by
      rcases Nat.lt_or_ge t 20 with g | g
      · exact g
      · exact absurd q (nI_nlt (a := t) (b := 20) g (by omega))
    refine ⟨vp_in_nI h20 (by decide), ?_⟩
    rw [up_same, up_cell (by decide), hw, nI_1]
    exact hg h20 _ (NX.up1 (k := 6) (NX.oth (NX.of hC) (St.rf.up rfl)))
  · have : t = 20 := by
      rcases Nat.lt_or_ge t 20 with g | g
      · exact absurd (show nI t < nI 20 from nI_lt g (by omega)) q
      · omega
    exact e7 4 (by decide) (by decide) (hk this _ (St.rf.up rfl))
theorem p_feed {w : Int64} {a : Int32} {b : Nat} (hb : b ≤ 50) (hC : CN n M) (hw : M 1 5 = nI b) (hg : ∀ N : Nat, 1 ≤ N → N ≤ 8 → a = nI N → b + N ≤ 50 → ∀ M1, NX n 0 (nI (b + N)) (M 1 6) (M 1 7) M M1 → K (nI (b + N)) M1)
    (h1 : ¬ (1 ≤ a.toInt ∧ a.toInt ≤ 8) → ∀ M1, St SX M M1 → K (-1000000001) M1) (h2 : ∀ N : Nat, 1 ≤ N → N ≤ 8 → a = nI N → 50 < b + N → ∀ M1, St SX M M1 → K (-1000000004) M1) : wp_X7_feed w a M K := by
  unfold wp_X7_feed
  refine w7n 1 8 (by decide) (by decide) (fun g1 g2 => ?_) (fun g => e7 1 (by decide) (by decide) (h1 g _ (St.rf.up rfl)))
  obtain ⟨N, hN, rfl⟩ := nat_of (x := a) 8 (by omega) g2 (by decide)
  rw [nI_toInt (by omega)] at g1
  rw [hw, nI_add]
  refine pk_le (b + N) 50 (fun q => ?_) (fun q => e7 4 (by decide) (by decide) (h2 N (by omega) hN rfl q _ (St.rf.up rfl)))
  refine loopN (L := fun k i M' => wp_X7_feed_L41 K w (nI N) k i M') N (fun i M' => NX n 0 (nI b) (M 1 6) (M 1 7) M M') ?_ 0 (Nat.zero_le _) (by rw [← hw]; exact NX.of hC)
  intro i M' k hi hs ih
  show wp_X7_feed_l41 K w (nI N) (wp_X7_feed_L41 K w (nI N) k) (nI i) M'
  unfold wp_X7_feed_l41
  have e5 : M' 1 5 = nI b := hs.2.2.2.2.1
  rw [up_same, e5, nI_add, nI_add]
  refine ⟨fun _ => hg N (by omega) hN rfl q _ (NX.up1 (k := 5) hs), fun q2 => ?_⟩
  have hi2 : i < N := lt_of_nI q2 (by omega) (by omega)
  refine ⟨vp_in_nI (by omega) (by decide), ?_⟩
  rintro _ rfl
  rw [nI_1]
  exact ih _ hi2 (hs.oth (St.rf.up rfl))
end NP
