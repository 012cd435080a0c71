/-- what a call may change of the model, but for: n stays, DAY moves by d, what b, t, z say; kinds, m, areas stay -/
abbrev CM (b : Nat) : Bool := b == 79 || b == 80 || (decide (82 ≤ b) && decide (b ≤ 86))
def NM (n d : Nat) (b t z : Int32) (M M1 : Mem) : Prop :=
  St CM M M1 ∧ RO n (M1 80) ∧ M1 80 0 = M 80 0 + nI d ∧ M1 80 3 = b ∧ M1 80 4 = t ∧ M1 80 1 = z ∧
  (∀ q : Nat, q < 9 → M1 80 (11 + 7 * q) = M 80 (11 + 7 * q) ∧ M1 80 (12 + 7 * q) = M 80 (12 + 7 * q) ∧ M1 80 (13 + 7 * q) = M 80 (13 + 7 * q)) ∧ M1 79 3 = M 79 3 ∧ M1 79 4 = M 79 4 ∧ M1 79 20 = M 79 20
theorem NM.of {n : Nat} {M : Mem} (hR : RO n (M 80)) : NM n 0 (M 80 3) (M 80 4) (M 80 1) M M := ⟨St.rf, hR, (Int32.add_zero _).symm, rfl, rfl, rfl, fun _ _ => ⟨rfl, rfl, rfl⟩, rfl, rfl, rfl⟩
theorem NM.sx {n d : Nat} {b t z : Int32} {M M1 M2 : Mem} (h : NM n d b t z M M1) (hs : St SMx M1 M2) : NM n d b t z M M2 := by
  obtain ⟨h1, h2, h3, h4, h5, h6, h7, h8, h9, h10⟩ := h
  have e79 : M2 79 = M1 79 := hs 79 rfl
  have e80 : M2 80 = M1 80 := hs 80 rfl
  exact ⟨h1.tr (hs.w (by simp <;> omega)), by rw [e80]; exact h2, by rw [e80]; exact h3, by rw [e80]; exact h4, by rw [e80]; exact h5, by rw [e80]; exact h6, fun q hq => by rw [e80]; exact h7 q hq, by rw [e79]; exact h8, by rw [e79]; exact h9, by rw [e79]; exact h10⟩
theorem NM.ofSX {n : Nat} {M M1 : Mem} (hR : RO n (M 80)) (hs : St SMx M M1) : NM n 0 (M 80 3) (M 80 4) (M 80 1) M M1 := (NM.of hR).sx hs
/-- a place that a day may change, not DAY -/
theorem NM.put {n d k : Nat} {b t z x : Int32} {M M1 : Mem} (h : NM n d b t z M M1) (hv : VOL k = true) (h0 : k ≠ 0) : NM n d b t z M (up M1 80 k x) := by
  obtain ⟨h1, h2, h3, h4, h5, h6, h7, h8, h9, h10⟩ := h
  have hne : ∀ j, VOL j = false → j ≠ k := fun j hj e => by rw [e, hv] at hj; cases hj
  refine ⟨h1.up rfl, h2.keep (fun j hj => up_slot _ (hne j hj)), by rw [up_slot _ (Ne.symm h0)]; exact h3, by rw [up_slot _ (hne 3 rfl)]; exact h4, by rw [up_slot _ (hne 4 rfl)]; exact h5, by rw [up_slot _ (hne 1 rfl)]; exact h6, fun q hq => ?_, by rw [up_cell (by decide)]; exact h8, by rw [up_cell (by decide)]; exact h9, by rw [up_cell (by decide)]; exact h10⟩
  rw [up_slot _ (hne _ (by simp [VOL]; omega)), up_slot _ (hne _ (by simp [VOL]; omega)), up_slot _ (hne _ (by simp [VOL]; omega))]
  exact h7 q hq
/-- TAPED, WAITING, z -/
theorem NM.num {n d k : Nat} {b t z x : Int32} {M M1 : Mem} (h : NM n d b t z M M1) (hk : k = 3 ∨ k = 4 ∨ k = 1) : NM n d (if k = 3 then x else b) (if k = 4 then x else t) (if k = 1 then x else z) M (up M1 80 k x) := by
  obtain ⟨h1, h2, h3, h4, h5, h6, h7, h8, h9, h10⟩ := h
  have hf : ∀ j y, M1 80 j = y → up M1 80 k x 80 j = if k = j then x else y := fun j y e => by
    by_cases g : k = j
    · subst g; rw [if_pos rfl, up_same]
    · rw [if_neg g, up_slot _ (fun e => g e.symm)]; exact e
  have hro : RO n (up M1 80 k x 80) := by
    obtain ⟨r1, r2, r3, r4, r5⟩ := h2
    have ht : ∀ w, w < 2 → TO (M1 80) w → TO (up M1 80 k x 80) w := fun w hw hT => by
      unfold TO
      rw [up_slot _ (by omega)]
      rcases hT with e | ⟨v, hv, e, g, g0, hg⟩
      · exact Or.inl e
      · refine Or.inr ⟨v, hv, e, g, g0, fun j hj => ?_⟩
        show SOK (up M1 80 k x 80 (144 + 50 * w + j)) _ _
        rw [up_slot _ (by omega)]; exact hg j hj
    exact ⟨r1, by rw [up_slot _ (by omega)]; exact r2, fun q hq => by rw [up_slot _ (by omega)]; exact r3 q hq, ht 0 (by omega) r4, ht 1 (by omega) r5⟩
  refine ⟨h1.up rfl, hro, by rw [up_slot _ (by omega)]; exact h3, hf _ _ h4, hf _ _ h5, hf _ _ h6, fun q hq => ?_, by rw [up_cell (by decide)]; exact h8, by rw [up_cell (by decide)]; exact h9, by rw [up_cell (by decide)]; exact h10⟩
  rw [up_slot _ (by omega), up_slot _ (by omega), up_slot _ (by omega)]
  exact h7 q hq
/-- the tape's bytes, the numbers that wait -/
theorem NM.tape {n d k : Nat} {b t z x : Int32} {M M1 : Mem} (h : NM n d b t z M M1) (hk : 74 ≤ k) (hk2 : k < 144) : NM n d b t z M (up M1 80 k x) := by
  obtain ⟨h1, h2, h3, h4, h5, h6, h7, h8, h9, h10⟩ := h
  have hro : RO n (up M1 80 k x 80) := by
    obtain ⟨r1, r2, r3, r4, r5⟩ := h2
    have ht : ∀ w, w < 2 → TO (M1 80) w → TO (up M1 80 k x 80) w := fun w hw hT => by
      unfold TO
      rw [up_slot _ (by omega)]
      rcases hT with e | ⟨v, hv, e, g, g0, hg⟩
      · exact Or.inl e
      · refine Or.inr ⟨v, hv, e, g, g0, fun j hj => ?_⟩
        show SOK (up M1 80 k x 80 (144 + 50 * w + j)) _ _
        rw [up_slot _ (by omega)]; exact hg j hj
    exact ⟨r1, by rw [up_slot _ (by omega)]; exact r2, fun q hq => by rw [up_slot _ (by omega)]; exact r3 q hq, ht 0 (by omega) r4, ht 1 (by omega) r5⟩
  refine ⟨h1.up rfl, hro, by rw [up_slot _ (by omega)]; exact h3, by rw [up_slot _ (by omega)]; exact h4, by rw [up_slot _ (by omega)]; exact h5, by rw [up_slot _ (by omega)]; exact h6, fun q hq => ?_, by rw [up_cell (by decide)]; exact h8, by rw [up_cell (by decide)]; exact h9, by rw [up_cell (by decide)]; exact h10⟩
  rw [up_slot _ (by omega), up_slot _ (by omega), up_slot _ (by omega)]
  exact h7 q hq
theorem NM.day {n d d2 : Nat} {b t z : Int32} {M M1 M2 : Mem} (h : NM n d b t z M M1) (hd : DM d2 M1 M2) : NM n (d + d2) b t z M M2 := by
  obtain ⟨h1, h2, h3, h4, h5, h6, h7, h8, h9, h10⟩ := h
  have e79 : M2 79 = M1 79 := hd.1 79 rfl
  refine ⟨h1.tr (hd.1.w (by simp <;> omega)), hd.ro h2, by rw [hd.2.2, h3, Int32.add_assoc, nI_add], (hd.2.1 3 rfl).trans h4, (hd.2.1 4 rfl).trans h5, (hd.2.1 1 rfl).trans h6, fun q hq => ?_, by rw [e79]; exact h8, by rw [e79]; exact h9, by rw [e79]; exact h10⟩
  rw [hd.2.1 _ (by simp [VOL]; omega), hd.2.1 _ (by simp [VOL]; omega), hd.2.1 _ (by simp [VOL]; omega)]
  exact h7 q hq
section MN
variable {n : Nat} {M : Mem} {K : Int32 → Mem → Prop}
theorem m_area {a : Int32} {A B : Int32 → Mem → Prop} (h1 : 0 ≤ a.toInt → a.toInt ≤ 9 → B 1 M) (h0 : ¬ (0 ≤ a.toInt ∧ a.toInt ≤ 9) → A 0 M) : wp_X8_isArea a M (fun r N => (r = 0 → A r N) ∧ (¬ r = 0 → B r N)) := by
  unfold wp_X8_isArea
  exact w8 0 9 (by decide) (by decide) (fun g1 g2 => ⟨Or.inr rfl, b1a (h1 g1 g2)⟩) (fun g => ⟨Or.inl rfl, b0a (h0 g)⟩)
theorem m_arean {a : Int32} {A B : Int32 → Mem → Prop} (h1 : 0 ≤ a.toInt → a.toInt ≤ 9 → B 1 M) (h0 : ¬ (0 ≤ a.toInt ∧ a.toInt ≤ 9) → A 0 M) : wp_X8_isArea a M (fun r N => (¬ r = 0 → B r N) ∧ (r = 0 → A r N)) := by
  unfold wp_X8_isArea
  exact w8 0 9 (by decide) (by decide) (fun g1 g2 => ⟨Or.inr rfl, b1b (h1 g1 g2)⟩) (fun g => ⟨Or.inl rfl, b0b (h0 g)⟩)
theorem m_becomes {k : Nat} {v : Int32} (hk : k < 244) (h : K (M 80 k) (up M 80 k v)) : wp_X8_becomes (nI k) v M K := by
  unfold wp_X8_becomes
  rw [nI_clamp (by omega)]
  exact ⟨vp_in_nI hk (by decide), vp_in_nI hk (by decide), h⟩
theorem m_set {a b : Int32} (hR : RO n (M 80)) (hk : ∀ r M1, NM n 0 (M 80 3) (M 80 4) (M 80 1) M M1 → K r M1) : wp_X8_set a b M K := by
  have he : ∀ r M1, St SMx M M1 → K r M1 := fun r M1 h => hk _ _ (NM.ofSX hR h)
  have hb : ∀ j : Nat, j < 4 → wp_X8_becomes (7 + nI j) b M (fun r N => K r N) := fun j hj => by
    rw [show (7 : Int32) = nI 7 from rfl, nI_add]
    exact m_becomes (by omega) (hk _ _ ((NM.of hR).put (by rcases (by omega : j = 0 ∨ j = 1 ∨ j = 2 ∨ j = 3) with rfl | rfl | rfl | rfl <;> rfl) (by omega)))
  unfold wp_X8_set
  refine w8z 0 1 (by decide) (by decide) (fun g1 g2 => ?_) (fun g => w8z 2 3 (by decide) (by decide) (fun g1 g2 => ?_) (fun _ => e8b St.rf he))
  · obtain ⟨j, hj, rfl⟩ := nat_of 1 g1 g2 (by decide)
    exact m_area (fun _ _ => hb j (by omega)) (fun _ => e8b St.rf he)
  · obtain ⟨j, hj, rfl⟩ := nat_of (x := a) 3 (by omega) g2 (by decide)
    exact w8z 0 99999 (by decide) (by decide) (fun _ _ => hb j (by omega)) (fun _ => e8b St.rf he)
theorem m_inArea {a : Int32} (hR : RO n (M 80)) (hg : 0 ≤ a.toInt → a.toInt ≤ 9 → K (setIn (fun q => M 80 (13 + 7 * q)) a n) M) (hb : ¬ (0 ≤ a.toInt ∧ a.toInt ≤ 9) → ∀ M1, St SMx M M1 → K (-1000000001) M1) : wp_X8_inArea a M K := by
  have hn := hR.1
  unfold wp_X8_inArea
  refine m_arean (fun g1 g2 => ?_) (fun g => e8 1 (by decide) (by decide) (hb g _ (St.rf.up rfl)))
  refine loopNA (L := fun k s i M' => wp_X8_inArea_L18 K a k s i M') n (fun i s M' => s = setIn (fun q => M 80 (13 + 7 * q)) a i ∧ M' = M) ?_ 0 (Nat.zero_le _) ⟨rfl, rfl⟩
  intro i s M' k hi e ih
  obtain ⟨rfl, rfl⟩ := e
  show wp_X8_inArea_l18 K a (wp_X8_inArea_L18 K a k) _ (nI i) M'
  unfold wp_X8_inArea_l18
  rw [hR.2.1]
  refine ⟨fun q => ?_, fun q => ?_⟩
  · have : i = n := by have := le_of_nI q (by omega) (by omega); omega
    subst this
    exact hg g1 g2
  · have hi2 : i < n := lt_of_nI q (by omega) (by omega)
    rw [nI_1]
    refine m_its 2 (by omega) ?_
    rw [show 11 + 7 * i + 2 = 13 + 7 * i by omega]
    refine ⟨fun e => ih _ _ hi2 ⟨?_, rfl⟩, fun e => ih _ _ hi2 ⟨?_, rfl⟩⟩
    · show _ = setIn (fun q => M' 80 (13 + 7 * q)) a (i + 1)
      rw [setIn, if_neg e]
    · show _ = setIn (fun q => M' 80 (13 + 7 * q)) a (i + 1)
      rw [setIn, if_pos e]
theorem m_ofQuarrel {a b : Int32} (hR : RO n (M 80)) (hk : ∀ r M1, St SMx M M1 → K r M1) : wp_X8_ofQuarrel a b M K := by
  have hn := hR.1
  unfold wp_X8_ofQuarrel
  refine q8z hR.1 hR.2.1 (fun j hj ej => ?_) (fun _ => e8b St.rf hk)
  subst ej
  refine w8n 0 9 (by decide) (by decide) (fun g1 g2 => ?_) (fun _ => e8b St.rf hk)
  obtain ⟨w, hw, rfl⟩ := nat_of 9 g1 g2 (by decide)
  refine ⟨fun _ => any_mgains (by omega) hR (fun r M1 h1 => hk _ _ (h1.w (by simp <;> omega))), fun _ => ⟨fun _ => any_mneeds (by omega) (fun r => hk _ _ St.rf), fun _ => ⟨fun _ => any_mdulls (by omega) (fun r => hk _ _ St.rf), fun _ => m_its w (by omega) (hk _ _ St.rf)⟩⟩⟩
theorem m_law {a b c d : Int32} (hR : RO n (M 80)) (hk : ∀ r M1, St SMx M M1 → K r M1) : wp_X8_law a b c d M K := by
  unfold wp_X8_law
  refine w8z 0 1 (by decide) (by decide) (fun g1 g2 => ?_) (fun _ => e8b St.rf hk)
  obtain ⟨w, hw, rfl⟩ := nat_of 1 g1 g2 (by decide)
  refine m_lawOf (by omega) ?_ (fun r M1 h1 => hk _ _ (h1.w (by simp <;> omega)))
  rcases (by omega : w = 0 ∨ w = 1) with rfl | rfl
  · exact hR.2.2.2.1
  · exact hR.2.2.2.2
theorem any_edgesOfAll (hn : n ≤ 9) (hm : M 80 2 = nI n) (h : ∀ r, K r M) : wp_X8_edgesOfAll M K := by
  unfold wp_X8_edgesOfAll
  refine loopNA (L := fun k a i M' => wp_X8_edgesOfAll_L4 K k a i M') n (fun _ _ M' => M' = M) ?_ 0 (Nat.zero_le _) rfl
  intro i a M' k hi e ih
  subst e
  show wp_X8_edgesOfAll_l4 K (wp_X8_edgesOfAll_L4 K k) a (nI i) M'
  unfold wp_X8_edgesOfAll_l4
  rw [hm]
  refine ⟨fun _ => h _, fun q => ?_⟩
  have hi2 : i < n := lt_of_nI q (by omega) (by omega)
  rw [nI_1]
  exact m_its 3 (by omega) (ih _ _ hi2 rfl)
theorem m_count {a : Int32} (hR : RO n (M 80)) (hk : ∀ r M1, St SMx M M1 → K r M1) : wp_X8_count a M K := by
  have h0 : ∀ r, K r M := fun r => hk _ _ St.rf
  unfold wp_X8_count
  exact ⟨fun _ => h0 _, fun _ => ⟨fun _ => h0 _, fun _ => ⟨fun _ => h0 _, fun _ => ⟨fun _ => h0 _, fun _ => ⟨fun _ => h0 _, fun _ => ⟨fun _ => h0 _, fun _ => ⟨fun _ => any_overSet hR.1 hR.2.1 (fun r => h0 _), fun _ => ⟨fun _ => any_edgesOfAll hR.1 hR.2.1 (fun r => h0 _), fun _ => ⟨fun _ => h0 _, fun _ => ⟨fun _ => h0 _, fun _ => ⟨fun _ => h0 _, fun _ => ⟨fun _ => h0 _, fun _ => e8b St.rf hk⟩⟩⟩⟩⟩⟩⟩⟩⟩⟩⟩⟩
theorem m_told {a : Int32} (hk : ∀ r M1, St SMx M M1 → K r M1) : wp_X8_told a M K := by
  unfold wp_X8_told
  refine w8z 1 5 (by decide) (by decide) (fun g1 g2 => ?_) (fun _ => e8b St.rf hk)
  obtain ⟨j, hj, rfl⟩ := nat_of (x := a) 5 (by omega) g2 (by decide)
  exact ⟨vp_in_nI (by omega) (by decide), hk _ _ St.rf⟩
theorem NM.passes {N d : Nat} {b t z : Int32} {M1 : Mem} {K : Mem → Prop} (hN : N ≤ 60) (h : NM n d b t z M M1) (hk : ∀ M2, NM n (d + N) b t z M M2 → K M2) : wp_X8_passes (nI N) M1 K := by
  unfold wp_X8_passes
  refine loopN (L := fun k i M' => wp_X8_passes_L2 K (nI N) k i M') N (fun i M' => NM n (d + i) b t z M M') ?_ 0 (Nat.zero_le _) h
  intro i M' k hi hs ih
  show wp_X8_passes_l2 K (nI N) (wp_X8_passes_L2 K (nI N) k) (nI i) M'
  unfold wp_X8_passes_l2
  refine ⟨fun q => ?_, fun q => ?_⟩
  · have : i = N := by have := le_of_nI q (by omega) (by omega); omega
    subst this; exact hk _ hs
  · rw [nI_1]
    exact m_day hs.2.1 (fun M2 h2 => ih _ (lt_of_nI q (by omega) (by omega)) (by have := hs.day h2; rwa [Nat.add_assoc] at this))
theorem m_days {a : Int32} (hR : RO n (M 80)) (hg : ∀ N : Nat, 1 ≤ N → N ≤ 60 → a = nI N → M 80 0 + a ≤ 9999 → ∀ r M1, NM n N (M 80 3) (M 80 4) (M 80 1) M M1 → K r M1) (hk : ¬ (1 ≤ a.toInt ∧ a.toInt ≤ 60 ∧ M 80 0 + a ≤ 9999) → ∀ r M1, St SMx M M1 → K r M1) : wp_X8_days a M K := by
  have hn := hR.1
  unfold wp_X8_days
  refine w8n 1 60 (by decide) (by decide) (fun g1 g2 => ⟨fun g3 => ?_, fun g3 => ?_⟩) (fun g => e8b St.rf (hk (fun g4 => g ⟨g4.1, g4.2.1⟩)))
  · obtain ⟨N, hN, rfl⟩ := nat_of (x := a) 60 (by omega) g2 (by decide)
    rw [nI_toInt (by omega)] at g1
    refine NM.passes hN (NM.of hR) (fun M2 h2 => any_overSet hn h2.2.1.2.1 (fun r => any_bits (fun r2 => ?_)))
    rw [Nat.zero_add] at h2
    exact hg N (by omega) hN rfl g3 _ _ h2
  · exact e8 3 (by decide) (by decide) (hk (fun g4 => g3 g4.2.2) _ _ (St.rf.up rfl))
theorem m_loose {a : Int32} (hR : RO n (M 80)) (hg : ∀ N : Nat, 1 ≤ N → N ≤ 40 → a = nI N → M 80 0 + a ≤ 9999 → ∀ r M1, NM n N (M 80 3) (M 80 4) (zdraw N (M 80 1)) M M1 → K r M1) (hk : ¬ (1 ≤ a.toInt ∧ a.toInt ≤ 40 ∧ M 80 0 + a ≤ 9999) → ∀ r M1, St SMx M M1 → K r M1) : wp_X8_loose a M K := by
  have hn := hR.1
  unfold wp_X8_loose
  refine w8n 1 40 (by decide) (by decide) (fun g1 g2 => ⟨fun g3 => ?_, fun g3 => ?_⟩) (fun g => e8b St.rf (hk (fun g4 => g ⟨g4.1, g4.2.1⟩)))
  · obtain ⟨N, hN, rfl⟩ := nat_of (x := a) 40 (by omega) g2 (by decide)
    rw [nI_toInt (by omega)] at g1
    refine loopN (L := fun k i M' => wp_X8_loose_L40 K (nI N) k i M') N (fun i M' => NM n i (M 80 3) (M 80 4) (zdraw i (M 80 1)) M M') ?_ 0 (Nat.zero_le _) (NM.of hR)
    intro i M' k hi hs ih
    show wp_X8_loose_l40 K (nI N) (wp_X8_loose_L40 K (nI N) k) (nI i) M'
    unfold wp_X8_loose_l40
    refine ⟨fun q => ?_, fun q => ?_⟩
    · have : i = N := by have := le_of_nI q (by omega) (by omega); omega
      subst this
      exact any_overSet hn hs.2.1.2.1 (fun r => any_bits (fun r2 => hg i (by omega) hN rfl g3 _ _ hs))
    · rw [nI_1]
      unfold wp_X8_drawn
      have hz : M' 80 1 = zdraw i (M 80 1) := hs.2.2.2.2.2.1
      rw [hz]
      refine ⟨by decide, ?_⟩
      have h2 := (hs.num (k := 1) (x := zdraw i (M 80 1) * 1103515245 + 12345) (by omega)).put (k := 8) (x := ((((up M' 80 1 (zdraw i (M 80 1) * 1103515245 + 12345)) 80 1).toUInt32 >>> ((8 : Int32).toUInt32 &&& Int32.toUInt32 31)).toInt32) - ((((up M' 80 1 (zdraw i (M 80 1) * 1103515245 + 12345)) 80 1).toUInt32 >>> ((8 : Int32).toUInt32 &&& Int32.toUInt32 31)).toInt32) / 10 * 10) rfl (by decide)
      exact m_day h2.2.1 (fun M1 h1 => ih _ (lt_of_nI q (by omega) (by omega)) (h2.day h1))
  · exact e8 3 (by decide) (by decide) (hk (fun g4 => g3 g4.2.2) _ _ (St.rf.up rfl))
theorem m_seed {a : Int32} (hR : RO n (M 80)) (hk : ∀ M1, NM n 0 (M 80 3) (M 80 4) a M M1 → K (M 80 1) M1) : wp_X8_seed a M K := by
  unfold wp_X8_seed
  exact hk _ (NM.num (k := 1) (NM.of hR) (by omega))
theorem m_tell {a : Int32} {t : Nat} (ht : t ≤ 20) (hR : RO n (M 80)) (hw : M 80 4 = nI t) (hg : t < 20 → ∀ M1, NM n 0 (M 80 3) (nI (t + 1)) (M 80 1) M M1 → K (nI (t + 1)) M1) (hk : t = 20 → ∀ M1, St SMx M M1 → K (-1000000004) M1) : wp_X8_tell a M K := by
  unfold wp_X8_tell
  rw [hw]
  have ex := pk_eq (x := nI t) (y := 20) t 20 (A := t = 20) (B := t ≠ 20) id id
  refine ⟨fun q => ?_, fun q => e8 4 (by decide) (by decide) (hk (ex.1 q) _ (St.rf.up rfl))⟩
  have h20 := ex.2 q
  rw [show (124 : Int32) = nI 124 from rfl, nI_add, nI_clamp (by omega)]
  refine ⟨vp_in_nI (by omega) (by decide), ?_⟩
  rw [up_same, up_slot _ (by omega), hw, nI_1]
  exact hg (by omega) _ (NM.num (k := 4) ((NM.of hR).tape (by omega) (by omega)) (by omega))
theorem m_feed {w : Int64} {a : Int32} {b : Nat} (hb : b ≤ 50) (hR : RO n (M 80)) (hw : M 80 3 = nI b) (hg : ∀ N : Nat, 1 ≤ N → N ≤ 8 → a = nI N → b + N ≤ 50 → ∀ M1, NM n 0 (nI (b + N)) (M 80 4) (M 80 1) M M1 → K (nI (b + N)) M1)
    (h1 : ¬ (1 ≤ a.toInt ∧ a.toInt ≤ 8) → ∀ M1, St SMx M M1 → K (-1000000001) M1) (h2 : ∀ N : Nat, 1 ≤ N → N ≤ 8 → a = nI N → 50 < b + N → ∀ M1, St SMx M M1 → K (-1000000004) M1) : wp_X8_feed w a M K := by
  unfold wp_X8_feed
  refine w8n 1 8 (by decide) (by decide) (fun g1 g2 => ?_) (fun g => e8 1 (by decide) (by decide) (h1 g _ (St.rf.up rfl)))
  obtain ⟨N, hN, rfl⟩ := nat_of (x := a) 8 (by omega) g2 (by decide)
  rw [nI_toInt (by omega)] at g1
  rw [hw, nI_add]
  refine pk_le (b + N) 50 (fun q => ?_) (fun q => e8 4 (by decide) (by decide) (h2 N (by omega) hN rfl q _ (St.rf.up rfl)))
  refine loopN (L := fun k i M' => wp_X8_feed_L40 K w (nI N) k i M') N (fun i M' => NM n 0 (nI (b + i)) (M 80 4) (M 80 1) M M') ?_ 0 (Nat.zero_le _) (by rw [Nat.add_zero, ← hw]; exact NM.of hR)
  intro i M' k hi hs ih
  show wp_X8_feed_l40 K w (nI N) (wp_X8_feed_L40 K w (nI N) k) (nI i) M'
  unfold wp_X8_feed_l40
  have e3 : M' 80 3 = nI (b + i) := hs.2.2.2.1
  rw [e3, show (74 : Int32) = nI 74 from rfl, nI_add, nI_clamp (by omega)]
  refine ⟨fun q2 => ?_, fun q2 => ⟨vp_in_nI (by omega) (by decide), ?_⟩⟩
  · have : i = N := by have := le_of_nI q2 (by omega) (by omega); omega
    subst this
    exact hg i (by omega) hN rfl q _ hs
  · have hi2 : i < N := lt_of_nI q2 (by omega) (by omega)
    rintro _ rfl
    rw [nI_1, up_slot _ (by omega), e3, nI_1]
    exact ih _ hi2 (NM.num (k := 3) (hs.tape (by omega) (by omega)) (by omega))
theorem m_check {t : Nat} (ht : t ≤ 20) (hR : RO n (M 80)) (hw : M 80 4 = nI t) (hk : ∀ r M1, NM n 0 (M 80 3) 0 (M 80 1) M M1 → K r M1) : wp_X8_check M K := by
  have hn := hR.1
  unfold wp_X8_check
  rw [hw]
  have h0 : NM n 0 (M 80 3) 0 (M 80 1) M (up M 80 4 0) := NM.num (k := 4) (NM.of hR) (by omega)
  generalize (up M 80 4 0) = Mz at h0
  have hR1 := h0.2.1
  refine t_go St.rf (fun M1 h1 => ?_)
  have fin : ∀ (x y : Int32) M', TT Mz M' → wp_X8_moveAll 82 80 M' (fun M2 => (y = 0 → K x M2) ∧ (¬ y = 0 → K 0 M2)) := fun x y M' hs => t_back hs (fun M3 h3 => ⟨fun _ => hk _ _ (h0.sx h3), fun _ => hk _ _ (h0.sx h3)⟩)
  refine loopW (σ := Nat × Int32 × Mem) (L := fun k s => wp_X8_check_L30 K (nI t) k (nI s.1) s.2.1 s.2.2) (I := fun k s => s.1 ≤ t ∧ k = 2 * (t - s.1) + (if s.2.1 = 0 then 0 else 1) ∧ TT Mz s.2.2) ?_ (k := 2 * t + 1) (s := (0, 1, M1)) ⟨by show 0 ≤ t; omega, by simp, h1⟩
  intro k s m hI ih
  obtain ⟨g1, g2, g3⟩ := hI
  show wp_X8_check_l30 K (nI t) (wp_X8_check_L30 K (nI t) m) (nI s.1) s.2.1 s.2.2
  unfold wp_X8_check_l30
  refine ⟨fun _ => fin (1 + nI s.1) s.2.1 _ g3, fun q => ⟨fun _ => fin (1 + nI s.1) s.2.1 _ g3, fun q2 => ?_⟩⟩
  have hlt : s.1 < t := lt_of_nI q (by omega) (by omega)
  rw [if_neg q2] at g2
  refine t_day hR1 g3 (fun M2 h2 => any_overSet hn (h2.ro hR1).2.1 (fun r => any_bits (fun r2 => ?_)))
  rw [show (124 : Int32) = nI 124 from rfl, nI_add]
  refine ⟨vp_in_nI (by omega) (by decide), fun _ => ?_, fun _ => ?_⟩
  · rw [Int32.add_zero]
    exact ih (2 * (t - s.1)) (s.1, 0, M2) (by omega) ⟨g1, by simp, h2⟩
  · rw [nI_1]
    exact ih (2 * (t - (s.1 + 1)) + 1) (s.1 + 1, 1, M2) (by omega) ⟨by show s.1 + 1 ≤ t; omega, by simp, h2⟩
end MN
