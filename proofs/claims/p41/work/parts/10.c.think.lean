theorem any_bitCount {v : Int32} {M : Mem} {K : Int32 → Mem → Prop} (h : ∀ r, K r M) : wp_J6_bitCount_0f7a4 v M K := by
  unfold wp_J6_bitCount_0f7a4
  intro _ _ _ _ _ _ _ _ _ _
  exact h _
theorem any_setEnded {g n : Nat} (hg : GF g) (hn : n ≤ 9) {M : Mem} {K : Int32 → Mem → Prop} (hm : M g 3 = nI n) (h : ∀ r, K r M) : wp_X0_setEnded g M K := by
  unfold wp_X0_setEnded
  refine loopNA (L := fun k a i M' => wp_X0_setEnded_L4 K g k a i M') n (fun _ _ M' => M' = M) ?_ 0 (Nat.zero_le _) rfl
  intro i a M' k hi e ih
  subst e
  show wp_X0_setEnded_l4 K g (wp_X0_setEnded_L4 K g k) a (nI i) M'
  unfold wp_X0_setEnded_l4
  rw [hm]
  refine ⟨fun _ => h _, fun q => ?_⟩
  have hi2 : i < n := lt_of_nI q (by omega) (by omega)
  rw [nI_1]
  exact ⟨hg.vp (by omega), fun _ => ih _ _ hi2 rfl, fun _ => ih _ _ hi2 rfl⟩
theorem any_endedMany {g n : Nat} (hg : GF g) (hn : n ≤ 9) {M : Mem} {K : Int32 → Mem → Prop} (hm : M g 3 = nI n) (h : ∀ r, K r M) : wp_X0_endedMany g M K := by
  unfold wp_X0_endedMany
  exact any_setEnded hg hn hm (fun r => any_bitCount h)
theorem any_edgesTogether {g n : Nat} (hg : GF g) (hn : n ≤ 9) {M : Mem} {K : Int32 → Mem → Prop} (hm : M g 3 = nI n) (h : ∀ r, K r M) : wp_X0_edgesTogether g M K := by
  unfold wp_X0_edgesTogether
  refine loopNA (L := fun k a i M' => wp_X0_edgesTogether_L4 K g k a i M') n (fun _ _ M' => M' = M) ?_ 0 (Nat.zero_le _) rfl
  intro i a M' k hi e ih
  subst e
  show wp_X0_edgesTogether_l4 K g (wp_X0_edgesTogether_L4 K g k) a (nI i) M'
  unfold wp_X0_edgesTogether_l4
  rw [hm]
  refine ⟨fun _ => h _, fun q => ?_⟩
  have hi2 : i < n := lt_of_nI q (by omega) (by omega)
  rw [nI_1]
  exact ⟨hg.vp (by omega), ih _ _ hi2 rfl⟩
theorem any_setFree {g n : Nat} (hg : GF g) (hn : n ≤ 9) {M : Mem} {K : Int32 → Mem → Prop} (hm : M g 3 = nI n) (hB : ∀ q : Nat, q < n → BoolOK (M (g + 2 + q) 6)) (h : ∀ r, K r M) : wp_X0_setFree g M K := by
  unfold wp_X0_setFree
  refine loopNA (L := fun k a i M' => wp_X0_setFree_L4 K g k a i M') n (fun _ _ M' => M' = M) ?_ 0 (Nat.zero_le _) rfl
  intro i a M' k hi e ih
  subst e
  show wp_X0_setFree_l4 K g (wp_X0_setFree_L4 K g k) a (nI i) M'
  unfold wp_X0_setFree_l4
  rw [hm]
  refine ⟨fun _ => h _, fun q => ?_⟩
  have hi2 : i < n := lt_of_nI q (by omega) (by omega)
  rw [nI_1, hg.one (by omega)]
  exact ⟨hg.vp (by omega), fun _ => ih _ _ hi2 rfl, fun _ => ⟨hg.vp (by omega), day_isFree hg hn (by omega) (DR.rf hm hB) (fun r _ => ⟨fun _ => ih _ _ hi2 rfl, fun _ => ih _ _ hi2 rfl⟩)⟩⟩
theorem any_setHangingOn {n q : Nat} (hn : n ≤ 9) (hq : q < n) {M : Mem} {K : Int32 → Mem → Prop} (hm : M 12 3 = nI n) (h : ∀ r, K r M) : wp_X0_setHangingOn 12 (nI q) M K := by
  unfold wp_X0_setHangingOn
  rw [nI_1]
  refine loopNA (L := fun k a i M' => wp_X0_setHangingOn_L6 K 12 (nI q) k a i M') n (fun _ _ M' => M' = M) ?_ (q + 1) (by omega) rfl
  intro i a M' k hi e ih
  subst e
  show wp_X0_setHangingOn_l6 K 12 (nI q) (wp_X0_setHangingOn_L6 K 12 (nI q) k) a (nI i) M'
  unfold wp_X0_setHangingOn_l6
  rw [hm]
  refine ⟨fun _ => h _, fun q => ?_⟩
  have hi2 : i < n := lt_of_nI q (by omega) (by omega)
  rw [nI_1]
  exact ⟨GF12.vp (by omega), fun _ => ih _ _ hi2 rfl, fun _ => ⟨fun _ => ih _ _ hi2 rfl, fun _ => ⟨fun _ => ih _ _ hi2 rfl, fun _ => ih _ _ hi2 rfl⟩⟩⟩
theorem any_setItHangsOn {q : Nat} (hq : q < 9) {M : Mem} {K : Int32 → Mem → Prop} (h : ∀ r, K r M) : wp_X0_setItHangsOn 12 (nI q) M K := by
  unfold wp_X0_setItHangsOn
  refine loopDA (L := fun k a i M' => wp_X0_setItHangsOn_L6 K 12 k a i M') (fun i _ M' => i < 9 ∧ M' = M) ?_ q ⟨hq, rfl⟩
  intro i a M' k hi ih
  obtain ⟨hi, rfl⟩ := hi
  show wp_X0_setItHangsOn_l6 K 12 (wp_X0_setItHangsOn_L6 K 12 k) a (nI i) M'
  unfold wp_X0_setItHangsOn_l6
  refine ⟨fun _ => h _, fun q => ?_⟩
  obtain ⟨j, rfl⟩ : ∃ j, i = j + 1 := ⟨i - 1, by
    rcases Nat.eq_zero_or_pos i with e | e
    · subst e; exact absurd (by decide) q
    · omega⟩
  rw [nI_dec]
  have hv : vp_in (nI (j + 1)) (ln (rf 12 2)) := GF12.vp (by omega)
  have hk : ∀ a', wp_X0_setItHangsOn_L6 K 12 k a' (nI j) M' := fun a' => ih j a' M' rfl ⟨by omega, rfl⟩
  exact ⟨fun _ => hk _, fun _ => ⟨hv, fun _ => hk _, fun _ => ⟨hv, fun _ _ => hk _⟩⟩⟩
/-- one copied -/
theorem cp_one {x0 x1 : Nat} {M : Mem} {K : Mem → Prop} (hne : x1 ≠ x0) (hB : BoolOK (M x1 6)) (h : ∀ M1, St (fun b => b == x0) M M1 → (∀ k, k < 7 → M1 x0 k = M x1 k) → K M1) : wp_X1_copyFrom x0 x1 M K := by
  unfold wp_X1_copyFrom
  intro Mg1 e1 Mg2 e2
  simp only [up_cell hne] at e1 e2
  have r1 : Mg1 x1 = M x1 := by rw [e1]; simp only [up_o _ hne]
  rw [r1] at e2
  have r2 : Mg2 x1 = M x1 := by rw [e2]; simp only [up_o _ hne]; exact r1
  rw [r2]
  refine ⟨hB, h _ ?_ ?_⟩
  · rw [e2, e1]
    exact ((((((St.rf.up (by simp)).up (by simp)).up (by simp)).up (by simp)).up (by simp)).up (by simp)).up (by simp)
  · intro k hk
    rw [e2, e1]
    rcases (by omega : k = 0 ∨ k = 1 ∨ k = 2 ∨ k = 3 ∨ k = 4 ∨ k = 5 ∨ k = 6) with rfl | rfl | rfl | rfl | rfl | rfl | rfl <;> simp [up]
/-- a ground's places -/
def GO (g : Nat) : Prop := rf g 2 = g + 1 ∧ ln (g + 1) = 9 ∧ (∀ q : Nat, q < 9 → rf (g + 1) q = g + 2 + q)
theorem GO12 : GO 12 := ⟨rfl, rfl, by decide +kernel⟩
theorem GO36 : GO 36 := ⟨rfl, rfl, by decide +kernel⟩
theorem GO49 : GO 49 := ⟨rfl, rfl, by decide +kernel⟩
theorem GO.one {g : Nat} (h : GO g) {i : Nat} (hi : i < 9) : rf (rf g 2) (nI i).toNatClampNeg = g + 2 + i := by
  rw [nI_clamp (by omega), h.1]; exact h.2.2 i hi
theorem GO.vp {g : Nat} (h : GO g) {i : Nat} (hi : i < 9) : vp_in (nI i) (ln (rf g 2)) := by
  rw [h.1, h.2.1]; exact vp_in_nI hi (by decide)
abbrev SG (g b : Nat) : Bool := b == g || (decide (g + 2 ≤ b) && decide (b ≤ g + 10))
/-- a ground copied -/
theorem cp_ground {g o n : Nat} (hg : GO g) (ho : GO o) (hd : g + 11 ≤ o ∨ o + 11 ≤ g) (hn : n ≤ 9) {M : Mem} {K : Mem → Prop} (hm : M o 3 = nI n) (hB : ∀ q : Nat, q < n → BoolOK (M (o + 2 + q) 6))
    (h : ∀ M1, St (SG g) M M1 → (∀ k, 3 ≤ k → k ≤ 8 → M1 g k = M o k) → (∀ q : Nat, q < n → ∀ k, k < 7 → M1 (g + 2 + q) k = M (o + 2 + q) k) → K M1) : wp_X0_copyFrom g o M K := by
  unfold wp_X0_copyFrom
  refine loopN (L := fun k i M' => wp_X0_copyFrom_L2 K g o k i M') n (fun i M' => St (SG g) M M' ∧ ∀ q : Nat, q < i → ∀ k, k < 7 → M' (g + 2 + q) k = M (o + 2 + q) k) ?_ 0 (Nat.zero_le _) ⟨St.rf, fun q hq => by omega⟩
  intro i M' k hi hs ih
  obtain ⟨hs, hc⟩ := hs
  show wp_X0_copyFrom_l2 K g o (wp_X0_copyFrom_L2 K g o k) (nI i) M'
  unfold wp_X0_copyFrom_l2
  have hno : o ≠ g := by omega
  have eo : M' o = M o := hs o (by simp <;> omega)
  rw [eo, hm]
  refine ⟨fun q => ?_, fun q => ?_⟩
  · intro Mg1 e1 Mg2 e2
    have hin : i = n := by have := le_of_nI q (by omega) (by omega); omega
    subst hin
    simp only [up_cell hno] at e1 e2
    have r1 : Mg1 o = M o := by rw [e1]; simp only [up_o _ hno]; exact eo
    rw [r1] at e2
    refine h _ ?_ ?_ ?_
    · rw [e2, e1]
      exact (((((hs.up (by simp)).up (by simp)).up (by simp)).up (by simp)).up (by simp)).up (by simp)
    · intro k h3 h8
      rw [e2, e1]
      rcases (by omega : k = 3 ∨ k = 4 ∨ k = 5 ∨ k = 6 ∨ k = 7 ∨ k = 8) with rfl | rfl | rfl | rfl | rfl | rfl <;> simp [up, eo, hm]
    · intro q hq k hk
      have hng : g + 2 + q ≠ g := by omega
      rw [e2, e1]
      simp only [up_cell hng]
      exact hc q hq k hk
  · have hi2 : i < n := lt_of_nI q (by omega) (by omega)
    rw [hg.one (by omega), ho.one (by omega), nI_1]
    have eoi : M' (o + 2 + i) = M (o + 2 + i) := hs _ (by simp <;> omega)
    refine ⟨hg.vp (by omega), ho.vp (by omega), cp_one (by omega) (by rw [eoi]; exact hB i hi2) (fun M1 h1 h2 => ih _ hi2 ⟨hs.tr (h1.w (by simp <;> omega)), fun q hq k hk => ?_⟩)⟩
    rcases Nat.lt_or_ge q i with e | e
    · rw [h1 (g + 2 + q) (by simp <;> omega)]; exact hc q e k hk
    · have : q = i := by omega
      subst this
      rw [h2 k hk, eoi]
/-- what is, for thinking -/
def CN (n : Nat) (M : Mem) : Prop := n ≤ 9 ∧ M 12 3 = nI n ∧ (∀ q : Nat, q < n → BoolOK (M (14 + q) 6)) ∧ TX 2 M ∧ TX 7 M
/-- rows that thinking changes -/
abbrev SX (b : Nat) : Bool := b == 6 || b == 11 || b == 78 || (decide (49 ≤ b) && decide (b ≤ 59))
theorem CN.keep {n : Nat} {M M1 : Mem} (h : CN n M) (hs : St SX M M1) : CN n M1 := by
  obtain ⟨h1, h2, h3, h4, h5⟩ := h
  refine ⟨h1, by rw [hs 12 rfl]; exact h2, fun q hq => by rw [hs (14 + q) (by simp <;> omega)]; exact h3 q hq, h4.keep (hs _ rfl) (hs _ rfl) (hs _ rfl) (hs _ rfl), h5.keep (hs _ rfl) (hs _ rfl) (hs _ rfl) (hs _ rfl)⟩
/-- the thought, ahead of what is at M0 -/
def T49 (n : Nat) (M0 M : Mem) : Prop := St SX M0 M ∧ M 49 3 = nI n ∧ ∀ q : Nat, q < n → BoolOK (M (51 + q) 6)
theorem T49.upg {n k : Nat} {x : Int32} {M0 M : Mem} (h : T49 n M0 M) (hk : k ≠ 3) : T49 n M0 (up M 49 k x) := ⟨h.1.up rfl, by rw [up_slot _ (Ne.symm hk)]; exact h.2.1, fun q hq => by rw [up_cell (by omega)]; exact h.2.2 q hq⟩
theorem T49.up1 {n k j : Nat} {x : Int32} {M0 M : Mem} (h : T49 n M0 M) (hj : j < 9) (hk : k ≠ 6 ∨ BoolOK x) : T49 n M0 (up M (51 + j) k x) := ⟨h.1.up (by simp <;> omega), by rw [up_cell (by omega)]; exact h.2.1, fun q hq => by
  by_cases e : q = j ∧ k = 6
  · obtain ⟨rfl, rfl⟩ := e
    rw [up_same]; exact hk.resolve_left (fun g => g rfl)
  · by_cases e2 : q = j
    · subst e2; rw [up_slot _ (fun g => e ⟨rfl, g.symm⟩)]; exact h.2.2 q hq
    · rw [up_cell (by omega)]; exact h.2.2 q hq⟩
theorem T49.err {n k : Nat} {x : Int32} {M0 M : Mem} (h : T49 n M0 M) : St SX M0 (up M 78 k x) := h.1.up rfl
theorem th_think {n : Nat} {M0 M : Mem} {K : Mem → Prop} (hC : CN n M0) (hs : St SX M0 M) (hk : ∀ M1, T49 n M0 M1 → K M1) : wp_X7_think M K := by
  have hC1 := hC.keep hs
  unfold wp_X7_think
  refine cp_ground GO49 GO12 (by omega) hC1.1 hC1.2.1 hC1.2.2.1 (fun M1 h1 h2 h3 => hk _ ⟨hs.tr (h1.w (by simp <;> omega)), ?_, ?_⟩)
  · rw [h2 3 (by omega) (by omega)]; exact hC1.2.1
  · intro q hq; rw [h3 q hq 6 (by omega)]; exact hC1.2.2.1 q hq
theorem T49.day {n d : Nat} {M0 M M1 : Mem} (h : T49 n M0 M) (h1 : DR 49 n d M M1) : T49 n M0 M1 := ⟨h.1.tr (h1.1.w (by simp <;> omega)), h1.2.1, h1.2.2.2.2.1⟩
theorem th_pass {n : Nat} {w : Int32} {M0 M : Mem} {K : Mem → Prop} (hC : CN n M0) (h : T49 n M0 M) (hk : ∀ M1, T49 n M0 M1 → K M1) : wp_X0_passDay 49 w M K := by
  have hC1 := hC.keep h.1
  exact day_pass GF49 hC.1 hC1.2.2.2.1 hC1.2.2.2.2 (DR.rf h.2.1 h.2.2) (fun M1 h1 => hk _ (h.day h1))
theorem th_rest {n : Nat} {w : Int32} {M0 M : Mem} {K : Mem → Prop} (hC : CN n M0) (h : T49 n M0 M) (hk : ∀ M1, T49 n M0 M1 → K M1) : wp_X0_restDay 49 w M K := by
  have hC1 := hC.keep h.1
  exact day_rest GF49 hC.1 hC1.2.2.2.2 (DR.rf h.2.1 h.2.2) (fun M1 h1 => hk _ (h.day h1))
theorem th_days {n N : Nat} (hN : N ≤ 60) {M0 M : Mem} {K : Mem → Prop} (hC : CN n M0) (h : T49 n M0 M) (hk : ∀ M1, T49 n M0 M1 → K M1) : wp_X7_thinkDays (nI N) M K := by
  unfold wp_X7_thinkDays
  refine loopN (L := fun k i M' => wp_X7_thinkDays_L2 K (nI N) k i M') N (fun _ M' => T49 n M0 M') ?_ 0 (Nat.zero_le _) h
  intro i M' k hi hs ih
  show wp_X7_thinkDays_l2 K (nI N) (wp_X7_thinkDays_L2 K (nI N) k) (nI i) M'
  unfold wp_X7_thinkDays_l2
  refine ⟨fun _ => hk _ hs, fun q => ?_⟩
  rw [nI_1]
  exact th_pass hC hs (fun M1 h1 => ih _ (lt_of_nI q (by omega) (by omega)) h1)
theorem th_daysH {n N : Nat} (hN : N ≤ 60) {M0 M : Mem} {K : Mem → Prop} (hC : CN n M0) (h : T49 n M0 M) (hk : ∀ M1, T49 n M0 M1 → K M1) : wp_X7_thinkDaysWithHarm (nI N) M K := by
  unfold wp_X7_thinkDaysWithHarm
  refine loopN (L := fun k i M' => wp_X7_thinkDaysWithHarm_L2 K (nI N) k i M') N (fun _ M' => T49 n M0 M') ?_ 0 (Nat.zero_le _) h
  intro i M' k hi hs ih
  show wp_X7_thinkDaysWithHarm_l2 K (nI N) (wp_X7_thinkDaysWithHarm_L2 K (nI N) k) (nI i) M'
  unfold wp_X7_thinkDaysWithHarm_l2
  refine ⟨fun _ => hk _ hs, fun q => ?_⟩
  rw [nI_1]
  exact th_pass hC hs (fun M1 h1 => ih _ (lt_of_nI q (by omega) (by omega)) h1)
theorem th_ends {n N j : Nat} (hN : N ≤ 60) (hj : j < n) {M0 M : Mem} {K : Int32 → Mem → Prop} (hC : CN n M0) (h : T49 n M0 M) (hk : ∀ r M1, T49 n M0 M1 → K r M1) : wp_X7_endsInThought (nI j) (nI N) M K := by
  have hn := hC.1
  unfold wp_X7_endsInThought
  refine ⟨vp_in_nI (by omega) (by decide), ?_⟩
  rw [nI_clamp (by omega)]
  refine loopN (L := fun k i M' => wp_X7_endsInThought_L13 K (nI N) (51 + j) k i M') N (fun _ M' => T49 n M0 M') ?_ 0 (Nat.zero_le _) h
  intro i M' k hi hs ih
  show wp_X7_endsInThought_l13 K (nI N) (51 + j) (wp_X7_endsInThought_L13 K (nI N) (51 + j) k) (nI i) M'
  unfold wp_X7_endsInThought_l13
  refine ⟨fun _ => ⟨hs.2.2 j hj, hk _ _ hs⟩, fun q => ⟨fun _ => ⟨hs.2.2 j hj, hk _ _ hs⟩, fun _ => ?_⟩⟩
  rw [nI_1]
  exact th_pass hC hs (fun M1 h1 => ih _ (lt_of_nI q (by omega) (by omega)) h1)
theorem any_greatestOf {v : Int32} {M : Mem} {K : Int32 → Mem → Prop} (h : ∀ r, K r M) : wp_X7_greatestOf v M K := by
  unfold wp_X7_greatestOf
  refine loopNA (L := fun k a i M' => wp_X7_greatestOf_L4 K v k a i M') 9 (fun _ _ M' => M' = M) ?_ 0 (Nat.zero_le _) rfl
  intro i a M' k hi e ih
  subst e
  show wp_X7_greatestOf_l4 K v (wp_X7_greatestOf_L4 K v k) a (nI i) M'
  unfold wp_X7_greatestOf_l4
  refine ⟨fun _ => h _, fun q => ?_⟩
  have hi2 : i < 9 := lt_of_nI (a := 9) q (by omega) (by omega)
  rw [nI_1]
  exact ⟨fun _ => ih _ _ hi2 rfl, fun _ => ih _ _ hi2 rfl⟩
theorem any_greatestDivisor {v : Int32} {M : Mem} {K : Int32 → Mem → Prop} (h : ∀ r, ¬ r = 0 → K r M) : wp_X7_greatestDivisor v 10 M K := by
  unfold wp_X7_greatestDivisor
  refine loopDA (α := Unit) (L := fun k _ i M' => wp_X7_greatestDivisor_L2 K v 10 k i M') (fun i _ M' => i ≤ 10 ∧ M' = M) ?_ 10 (a := ()) ⟨by omega, rfl⟩
  intro i a M' k hi ih
  obtain ⟨hi, rfl⟩ := hi
  show wp_X7_greatestDivisor_l2 K v 10 (wp_X7_greatestDivisor_L2 K v 10 k) (nI i) M'
  unfold wp_X7_greatestDivisor_l2
  refine ⟨fun _ => h _ (by decide), fun q => ?_⟩
  obtain ⟨j, rfl⟩ : ∃ j, i = j + 1 := ⟨i - 1, by
    rcases Nat.eq_zero_or_pos i with e | e
    · subst e; exact absurd (by decide) q
    · omega⟩
  have hne : ¬ nI (j + 1) = 0 := nI_ne0 (by omega) (by omega)
  rw [nI_dec]
  have hk : wp_X7_greatestDivisor_L2 K v 10 k (nI j) M' := ih j () M' rfl ⟨by omega, rfl⟩
  exact ⟨hne, fun _ => hk, fun _ => ⟨hne, fun _ => hk, fun _ => h _ hne⟩⟩
theorem any_sharpen {n : Nat} {v : Int32} {M0 M : Mem} {K : Mem → Prop} (hn : n ≤ 9) (h : T49 n M0 M) (hk : ∀ M1, T49 n M0 M1 → K M1) : wp_X0_sharpen 49 v M K := by
  unfold wp_X0_sharpen
  refine loopN (L := fun k i M' => wp_X0_sharpen_L2 K 49 v k i M') n (fun _ M' => T49 n M0 M') ?_ 0 (Nat.zero_le _) h
  intro i M' k hi hs ih
  show wp_X0_sharpen_l2 K 49 v (wp_X0_sharpen_L2 K 49 v k) (nI i) M'
  unfold wp_X0_sharpen_l2
  rw [hs.2.1]
  refine ⟨fun _ => hk _ hs, fun q => ?_⟩
  have hi2 : i < n := lt_of_nI q (by omega) (by omega)
  rw [nI_1, GF49.one (by omega)]
  exact ⟨fun _ => ih _ hi2 hs, fun _ => ⟨GF49.vp (by omega), ih _ hi2 (hs.up1 (by omega) (Or.inl (by omega)))⟩⟩
