section MS
variable {n : Nat} {M : Mem} {K : Int32 → Mem → Prop}
theorem ix40 (j i : Nat) : (40 : Int32) * nI j + nI i = nI (40 * j + i) := by rw [show (40 : Int32) = nI 40 from rfl, pk_mul, nI_add]
theorem m_sheet {a b c : Int32} (hg : ∀ j z : Nat, j < 4 → a = nI j → z ≤ 40 → (b = 0 → z = 0) → (¬ b = 0 → c = nI z) → ∀ M1, St (fun b => b == 87 || b == 88 || b == 89) M M1 → M1 87 j = b → M1 88 j = nI z → (∀ k, k ≠ j → M1 87 k = M 87 k ∧ M1 88 k = M 88 k) → (∀ k, k < 40 → M1 89 (40 * j + k) = 0) → (∀ k, (k < 40 * j ∨ 40 * j + 40 ≤ k) → M1 89 k = M 89 k) → shAns a b c = 1 → K (shAns a b c) M1)
    (hb : shAns a b c ≠ 1 → ∀ M1, St SMx M M1 → K (shAns a b c) M1) : wp_X8_sheet a b c M K := by
  unfold wp_X8_sheet
  refine s8 (fun j hj ej => b1a ?_) (fun g => b0a ?_)
  · subst ej
    have ea : 0 ≤ (nI j).toInt ∧ (nI j).toInt ≤ 3 := by rw [nI_toInt (by omega)]; omega
    have hv : vp_in (nI j) 4 := vp_in_nI hj (by decide)
    have hblk : (b = 0 ∨ b = 8 ∨ b = 16 ∨ b = 32) → (¬ b = 0 → 0 ≤ c.toInt) → wp_X8_sheet_b51 K (nI j) b c M := by
      intro hbits hc0
      unfold wp_X8_sheet_b51
      rw [nI_clamp (by omega)]
      have hl : ∀ z : Nat, z ≤ 40 → (b = 0 → z = 0) → (¬ b = 0 → c = nI z) → ∃ m, wp_X8_sheet_L93 K (nI j) m 0 (up (up M 87 j b) 88 j (nI z)) := by
        intro z hz h0 h1
        have e1 : shAns (nI j) b c = 1 := by
          unfold shAns
          rw [if_neg (fun h => h ea), if_neg (fun h => h hbits), if_neg (fun h => by have := hc0 h.1; omega), if_neg (fun h => ?_)]
          have := h1 h.1
          have h2 := h.2
          rw [this, nI_toInt (by omega)] at h2; omega
        refine loopN (L := fun m i M' => wp_X8_sheet_L93 K (nI j) m i M') 40 (fun i M' => St (fun b => b == 87 || b == 88 || b == 89) M M' ∧ M' 87 j = b ∧ M' 88 j = nI z ∧ (∀ k, k ≠ j → M' 87 k = M 87 k ∧ M' 88 k = M 88 k) ∧ (∀ k, k < i → M' 89 (40 * j + k) = 0) ∧ (∀ k, (k < 40 * j ∨ 40 * j + 40 ≤ k) → M' 89 k = M 89 k)) ?_ 0 (Nat.zero_le _) ⟨(St.rf.up rfl).up rfl, by rw [up_cell (by decide), up_same], up_same, fun k hk => ⟨by rw [up_cell (by decide), up_slot _ hk], by rw [up_slot _ hk, up_cell (by decide)]⟩, fun k hk => by omega, fun k _ => by rw [up_cell (by decide), up_cell (by decide)]⟩
        intro i M' m hi hs ih
        obtain ⟨s1, s2, s3, s4, s5, s6⟩ := hs
        show wp_X8_sheet_l93 K (nI j) (wp_X8_sheet_L93 K (nI j) m) (nI i) M'
        unfold wp_X8_sheet_l93
        rw [ix40, nI_1]
        refine ⟨fun q => ?_, fun q => ?_⟩
        · have h40 := le_of_nI (a := 40) q (by omega) (by omega)
          have := hg j z hj rfl hz h0 h1 M' s1 s2 s3 s4 (fun k hk => s5 k (by omega)) s6 e1
          rw [e1] at this; exact this
        · have hi2 : i < 40 := lt_of_nI (a := 40) q (by omega) (by omega)
          rw [nI_clamp (by omega)]
          refine ⟨vp_in_nI (by omega) (by decide), ih _ hi2 ⟨s1.up rfl, by rw [up_cell (by decide)]; exact s2, by rw [up_cell (by decide)]; exact s3, fun k hk => ⟨by rw [up_cell (by decide)]; exact (s4 k hk).1, by rw [up_cell (by decide)]; exact (s4 k hk).2⟩, fun k hk => ?_, fun k hk => by rw [up_slot _ (by omega)]; exact s6 k hk⟩⟩
          by_cases e : k = i
          · subst e; exact up_same
          · rw [up_slot _ (by omega)]; exact s5 k (by omega)
      refine ⟨fun e => ⟨hv, fun e2 => absurd e e2, fun _ => ⟨hv, hl 0 (by omega) (fun _ => rfl) (fun h => absurd e h)⟩⟩, fun e => ⟨fun q => ⟨hv, fun _ => ⟨hv, ?_⟩, fun e2 => absurd e2 e⟩, fun q => ?_⟩⟩
      · have q2 := ti_le rfl (show (40 : Int32).toInt = 40 by decide) q
        obtain ⟨z, hz, rfl⟩ := nat_of (x := c) 40 (hc0 e) q2 (by decide)
        exact hl z hz (fun h => absurd h e) (fun _ => rfl)
      · have q2 := ti_nle rfl (show (40 : Int32).toInt = 40 by decide) q
        have e1 : shAns (nI j) b c = -1000000001 := by
          unfold shAns
          rw [if_neg (fun h => h ea), if_neg (fun h => h hbits), if_neg (fun h => by have := hc0 h.1; omega), if_pos ⟨e, by omega⟩]
        have := hb (by rw [e1]; decide) _ (St.rf.up (i := 83) (k := 1) (x := M 83 1 + 1) rfl)
        rw [e1] at this
        exact e8 1 (by decide) (by decide) this
    have hneg : (b = 0 ∨ b = 8 ∨ b = 16 ∨ b = 32) → (¬ b = 0) → ¬ 0 ≤ c → wp_X8_errs (-1000000003) M (fun r7 M7 => K r7 M7) := by
      intro hbits e q
      have q2 := ti_nle (show (0 : Int32).toInt = 0 by decide) rfl q
      have e1 : shAns (nI j) b c = -1000000003 := by
        unfold shAns
        rw [if_neg (fun h => h ea), if_neg (fun h => h hbits), if_pos ⟨e, q2⟩]
      have := hb (by rw [e1]; decide) _ (St.rf.up (i := 83) (k := 3) (x := M 83 3 + 1) rfl)
      rw [e1] at this
      exact e8 3 (by decide) (by decide) this
    have hall : (b = 0 ∨ b = 8 ∨ b = 16 ∨ b = 32) → (b = 0 → wp_X8_sheet_b51 K (nI j) b c M) ∧ (¬ b = 0 → (0 ≤ c → wp_X8_sheet_b51 K (nI j) b c M) ∧ (¬ 0 ≤ c → wp_X8_errs (-1000000003) M (fun r7 M7 => K r7 M7))) := fun hbits =>
      ⟨fun e => hblk hbits (fun h => absurd e h), fun e => ⟨fun q => hblk hbits (fun _ => by have := ti_le (show (0 : Int32).toInt = 0 by decide) rfl q; omega), fun q => hneg hbits e q⟩⟩
    refine ⟨fun e => hall (Or.inl e), fun e0 => ⟨fun e => hall (Or.inr (Or.inl e)), fun e8' => ⟨fun e => hall (Or.inr (Or.inr (Or.inl e))), fun e16 => ⟨fun e => hall (Or.inr (Or.inr (Or.inr e))), fun e32 => ?_⟩⟩⟩⟩
    have e1 : shAns (nI j) b c = -1000000001 := by
      unfold shAns
      rw [if_neg (fun h => h ea), if_pos (fun h => by rcases h with h | h | h | h <;> contradiction)]
    have := hb (by rw [e1]; decide) _ (St.rf.up (i := 83) (k := 1) (x := M 83 1 + 1) rfl)
    rw [e1] at this
    exact e8 1 (by decide) (by decide) this
  · have e1 : shAns a b c = -1000000001 := by
      unfold shAns
      rw [if_pos g]
    have := hb (by rw [e1]; decide) _ (St.rf.up (i := 83) (k := 1) (x := M 83 1 + 1) rfl)
    rw [e1] at this
    exact e8 1 (by decide) (by decide) this
theorem m_put {a i v : Int32} (hS : SMc M) (hg : ∀ j z k : Nat, j < 4 → a = nI j → M 88 j = nI z → z ≤ 40 → ¬ M 87 j = 0 → k < z → i = nI k → K 1 (up M 89 (40 * j + k) (narB (M 87 j) v)))
    (hb : ¬ (0 ≤ a.toInt ∧ a.toInt ≤ 3) → ∀ M1, St SMx M M1 → K (-1000000001) M1) (hm : ∀ j : Nat, j < 4 → a = nI j → M 87 j = 0 → ∀ M1, St SMx M M1 → K (-1000000002) M1)
    (hr : ∀ j z : Nat, j < 4 → a = nI j → M 88 j = nI z → z ≤ 40 → ¬ M 87 j = 0 → ¬ (0 ≤ i.toInt ∧ i.toInt < z) → ∀ M1, St SMx M M1 → K (-1000000001) M1) : wp_X8_put a i v M K := by
  unfold wp_X8_put
  refine s8 (fun j hj ej => b1b ?_) (fun g => b0b (e8 1 (by decide) (by decide) (hb g _ (St.rf.up rfl))))
  subst ej
  have hv : vp_in (nI j) 4 := vp_in_nI hj (by decide)
  rw [nI_clamp (by omega)]
  refine ⟨hv, fun q => ⟨hv, ?_⟩, fun q => e8 2 (by decide) (by decide) (hm j hj rfl q _ (St.rf.up rfl))⟩
  obtain ⟨z, hz, ez⟩ := hS j hj
  rw [ez]
  refine w8n 0 ((z : Int) - 1) (by decide) (nI_m1 (by omega)) (fun g1 g2 => ⟨hv, ?_⟩) (fun g => e8 1 (by decide) (by decide) (hr j z hj rfl ez hz q (by omega) _ (St.rf.up rfl)))
  obtain ⟨k, hk, rfl⟩ := nat_of (x := i) 39 g1 (by omega) (by decide)
  rw [nI_toInt (by omega)] at g2
  have h := hg j z k hj rfl ez hz q (by omega) rfl
  unfold wp_X8_narrow
  rw [ix40, nI_clamp (by omega)]
  have hv2 : vp_in (nI (40 * j + k)) 160 := vp_in_nI (by omega) (by decide)
  refine ⟨fun e8' => ⟨fun e16 => ⟨hv2, ?_⟩, fun e16 => ⟨hv2, ?_⟩⟩, fun e8' => ⟨hv2, ?_⟩⟩
  · rw [narB, if_neg e8', if_neg e16] at h; exact h
  · rw [narB, if_neg e8', if_pos e16] at h; exact h
  · rw [narB, if_pos e8'] at h; exact h
theorem m_edges {a : Int32} (hR : RO n (M 80)) (hS : SMc M) (hg : ∀ j z : Nat, j < 4 → a = nI j → M 88 j = nI z → z ≤ 40 → ¬ M 87 j = 0 → ∀ M1, NM n 0 (M 80 3) (M 80 4) (M 80 1) M M1 → K (nI (edgeN (fun k => M 89 (40 * j + k)) (min n z))) M1)
    (hb : ¬ (0 ≤ a.toInt ∧ a.toInt ≤ 3) → ∀ M1, St SMx M M1 → K (-1000000001) M1) (hm : ∀ j : Nat, j < 4 → a = nI j → M 87 j = 0 → ∀ M1, St SMx M M1 → K (-1000000002) M1) : wp_X8_edges a M K := by
  have hn := hR.1
  unfold wp_X8_edges
  refine s8 (fun j hj ej => b1b ?_) (fun g => b0b (e8 1 (by decide) (by decide) (hb g _ (St.rf.up rfl))))
  subst ej
  have hv : vp_in (nI j) 4 := vp_in_nI hj (by decide)
  rw [nI_clamp (by omega)]
  refine ⟨hv, fun q => ?_, fun q => e8 2 (by decide) (by decide) (hm j hj rfl q _ (St.rf.up rfl))⟩
  obtain ⟨z, hz, ez⟩ := hS j hj
  refine loopN (L := fun m i M' => wp_X8_edges_L32 K (nI j) m i M') (min n z) (fun i M' => NM n 0 (M 80 3) (M 80 4) (M 80 1) M M' ∧ edgeN (fun k => M 89 (40 * j + k)) i = i) ?_ 0 (Nat.zero_le _) ⟨NM.of hR, rfl⟩
  intro i M' m hi hs ih
  obtain ⟨hs, he⟩ := hs
  show wp_X8_edges_l32 K (nI j) (wp_X8_edges_L32 K (nI j) m) (nI i) M'
  unfold wp_X8_edges_l32
  have e88 : M' 88 = M 88 := hs.1 88 rfl
  have e89 : M' 89 = M 89 := hs.1 89 rfl
  rw [nI_clamp (by omega), e88, ez]
  have fin : edgeN (fun k => M 89 (40 * j + k)) (min n z) = i → K (nI i) M' := fun e => by
    have := hg j z hj rfl ez hz q _ hs
    rw [e] at this; exact this
  refine ⟨hv, fun q2 => ?_, fun q2 => ?_⟩
  · have hzi := le_of_nI q2 (by omega) (by omega)
    refine fin ?_
    have : min n z = i := by omega
    rw [this]; exact he
  · have hiz : i < z := lt_of_nI q2 (by omega) (by omega)
    refine q8z hn hs.2.1.2.1 (fun i' hi' ei => ?_) (fun g => fin ?_)
    · have : i' = i := ((nI_eq (by omega) (by omega)).mp ei).symm
      subst this
      have hv2 : vp_in (nI (40 * j + i')) 160 := vp_in_nI (by omega) (by decide)
      rw [ix40, nI_clamp (by omega), nI_1]
      refine ⟨hv2, ?_⟩
      rw [e89]
      refine w8z 0 99 (by decide) (by decide) (fun g1 g2 => ⟨hv2, m_gets 3 (by omega) ?_⟩) (fun g => fin (edgeN_stop he g _ (by omega)))
      refine ih _ (by omega) ⟨hs.put (vol_one (by omega) (by omega)) (by omega), ?_⟩
      unfold edgeN
      rw [if_pos ⟨he, g1, g2⟩]
    · have hni : n ≤ i := by
        rcases Nat.lt_or_ge i n with g2 | g2
        · exact absurd ⟨by rw [nI_toInt (by omega)]; omega, by rw [nI_toInt (by omega)]; omega⟩ g
        · exact g2
      have : min n z = i := by omega
      rw [this]; exact he
theorem m_judge {a : Int32} (hR : RO n (M 80)) (hS : SMc M) (hk : ∀ r M1, St SMx M M1 → K r M1) : wp_X8_judge a M K := by
  have hn := hR.1
  have h0 : ∀ r, K r M := fun r => hk _ _ St.rf
  unfold wp_X8_judge
  refine s8 (fun j hj ej => b1b ?_) (fun g => b0b (e8b St.rf hk))
  subst ej
  have hv : vp_in (nI j) 4 := vp_in_nI hj (by decide)
  rw [nI_clamp (by omega)]
  refine ⟨hv, fun q => ?_, fun q => e8n St.rf hk⟩
  obtain ⟨z, hz, ez⟩ := hS j hj
  refine loopN (L := fun m i M' => wp_X8_judge_L32 K (nI j) m i M') n (fun i M' => M' = M) ?_ 0 (Nat.zero_le _) rfl
  intro i M' m hi e ih
  subst e
  show wp_X8_judge_l32 K (nI j) (wp_X8_judge_L32 K (nI j) m) (nI i) M'
  unfold wp_X8_judge_l32
  rw [nI_clamp (by omega), hR.2.1, ez]
  have fin : (¬ nI i = nI n → K (nI i) M') ∧ (nI i = nI n → vp_in (nI j) 4 ∧ ((¬ nI i = nI z → K (nI i) M') ∧ (nI i = nI z → K (-1) M'))) := ⟨fun _ => h0 _, fun _ => ⟨hv, fun _ => h0 _, fun _ => h0 _⟩⟩
  refine ⟨fun _ => fin, fun q2 => ⟨hv, fun _ => fin, fun q3 => ?_⟩⟩
  have hi2 : i < n := lt_of_nI q2 (by omega) (by omega)
  rw [nI_1, ix40]
  refine ⟨vp_in_nI (by omega) (by decide), m_its 6 (by omega) ?_⟩
  rw [hR.2.1, ez]
  exact ⟨fun _ => fin, fun _ => ih _ hi2 rfl⟩
theorem m_moveS {s i o j c : Int32} (hS : SMc M)
    (hg : ∀ p q z1 z2 I J N : Nat, p < 4 → q < 4 → s = nI p → o = nI q → M 88 p = nI z1 → z1 ≤ 40 → M 88 q = nI z2 → z2 ≤ 40 → ¬ M 87 p = 0 → ¬ M 87 q = 0 → M 87 p = M 87 q → i = nI I → j = nI J → c = nI N → I + N ≤ z1 → J + N ≤ z2 → ∀ M1, St (fun b => b == 89 || b == 90) M M1 → (∀ k, k < N → M1 89 (40 * q + J + k) = M 89 (40 * p + I + k)) → (∀ k, (k < 40 * q + J ∨ 40 * q + J + N ≤ k) → M1 89 k = M 89 k) → K c M1)
    (hb : ¬ ((0 ≤ s.toInt ∧ s.toInt ≤ 3) ∧ 0 ≤ o.toInt ∧ o.toInt ≤ 3) → ∀ M1, St SMx M M1 → K (-1000000001) M1)
    (hm : ∀ p q : Nat, p < 4 → q < 4 → s = nI p → o = nI q → (M 87 p = 0 ∨ M 87 q = 0) → ∀ M1, St SMx M M1 → K (-1000000002) M1)
    (hu : ∀ p q : Nat, p < 4 → q < 4 → s = nI p → o = nI q → ¬ M 87 p = 0 → ¬ M 87 q = 0 → ¬ M 87 p = M 87 q → ∀ M1, St SMx M M1 → K (-1000000005) M1)
    (hr : ∀ p q z1 z2 : Nat, p < 4 → q < 4 → s = nI p → o = nI q → M 88 p = nI z1 → z1 ≤ 40 → M 88 q = nI z2 → z2 ≤ 40 → ¬ M 87 p = 0 → ¬ M 87 q = 0 → M 87 p = M 87 q → ¬ MvG z1 z2 i j c → ∀ M1, St SMx M M1 → K (-1000000001) M1) : wp_X8_move s i o j c M K := by
  unfold wp_X8_move
  refine s8 (fun p hp ep => b1a ?_) (fun g => b0a (e8 1 (by decide) (by decide) (hb (fun h => g h.1) _ (St.rf.up rfl))))
  subst ep
  refine s8 (fun q hq eq => b1b ?_) (fun g => b0b (e8 1 (by decide) (by decide) (hb (fun h => g h.2) _ (St.rf.up rfl))))
  subst eq
  have hvp : vp_in (nI p) 4 := vp_in_nI hp (by decide)
  have hvq : vp_in (nI q) 4 := vp_in_nI hq (by decide)
  rw [nI_clamp (by omega), nI_clamp (by omega)]
  refine ⟨hvp, fun m1 => e8 2 (by decide) (by decide) (hm p q hp hq rfl rfl (Or.inl m1) _ (St.rf.up rfl)), fun m1 => ⟨hvq, fun m2 => ⟨hvp, hvq, fun m3 => ?_, fun m3 => e8 5 (by decide) (by decide) (hu p q hp hq rfl rfl m1 m2 m3 _ (St.rf.up rfl))⟩, fun m2 => e8 2 (by decide) (by decide) (hm p q hp hq rfl rfl (Or.inr m2) _ (St.rf.up rfl))⟩⟩
  obtain ⟨z1, hz1, ez1⟩ := hS p hp
  obtain ⟨z2, hz2, ez2⟩ := hS q hq
  have hr := hr p q z1 z2 hp hq rfl rfl ez1 hz1 ez2 hz2 m1 m2 m3
  have he : ¬ MvG z1 z2 i j c → wp_X8_errs (-1000000001) M (fun r N => K r N) := fun g => e8 1 (by decide) (by decide) (hr g _ (St.rf.up rfl))
  have z0 : (0 : Int32).toInt = 0 := by decide
  refine ⟨fun q1 => he (fun h => ?_), fun q1 => ⟨fun q2 => he (fun h => ?_), fun q2 => ⟨fun q3 => he (fun h => ?_), fun q3 => ?_⟩⟩⟩
  · have := ti_lt rfl z0 q1; have := h.1.2.1; omega
  · have := ti_lt rfl z0 q2; have := h.1.1; omega
  · have := ti_lt rfl z0 q3; have := h.2.1; omega
  have p1 := ti_nlt rfl z0 q1
  have p2 := ti_nlt rfl z0 q2
  have p3 := ti_nlt rfl z0 q3
  have hsub : ∀ z : Nat, z ≤ 40 → (nI z - c).toInt = (z : Int) - c.toInt := fun z hz => by
    rw [Int32.toInt_sub, nI_toInt (by omega)]
    have := Int32.toInt_lt c
    exact Int.bmod_eq_of_le (by omega) (by omega)
  rw [ez1, ez2]
  refine ⟨hvp, fun q4 => he (fun h => ?_), fun q4 => ⟨hvq, fun q5 => ?_, fun q5 => he (fun h => ?_)⟩⟩
  · have := ti_lt (hsub z1 hz1) rfl q4; have := h.1.2.2; omega
  · have p4 := ti_nlt (hsub z1 hz1) rfl q4
    have p5 := ti_le rfl (hsub z2 hz2) q5
    obtain ⟨I, hI, rfl⟩ := nat_of (x := i) 40 (by omega) (by omega) (by decide)
    obtain ⟨J, hJ, rfl⟩ := nat_of (x := j) 40 (by omega) (by omega) (by decide)
    obtain ⟨N, hN, rfl⟩ := nat_of (x := c) 40 (by omega) (by omega) (by decide)
    rw [nI_toInt (by omega), nI_toInt (by omega)] at p4 p5
    have ixx : ∀ x y k : Nat, (40 : Int32) * nI x + nI y + nI k = nI (40 * x + y + k) := fun x y k => by rw [ix40, nI_add]
    refine loopN (L := fun m i M' => wp_X8_move_L119 K (nI p) (nI I) (nI q) (nI J) (nI N) m i M') N (fun i M' => St (fun b => b == 90) M M' ∧ ∀ k, k < i → M' 90 k = M 89 (40 * p + I + k)) ?_ 0 (Nat.zero_le _) ⟨St.rf, fun k hk => by omega⟩
    intro k M' m hk hs ih
    obtain ⟨hs, hc⟩ := hs
    show wp_X8_move_l119 K (nI p) (nI I) (nI q) (nI J) (nI N) (wp_X8_move_L119 K (nI p) (nI I) (nI q) (nI J) (nI N) m) (nI k) M'
    unfold wp_X8_move_l119
    refine ⟨fun q6 => ?_, fun q6 => ?_⟩
    · have hkN : k = N := by have := le_of_nI q6 (by omega) (by omega); omega
      subst hkN
      refine loopN (L := fun m i M'' => wp_X8_move_L156 K (nI q) (nI J) (nI k) m i M'') k (fun i M'' => St (fun b => b == 89) M' M'' ∧ (∀ x, x < i → M'' 89 (40 * q + J + x) = M 89 (40 * p + I + x)) ∧ (∀ x, (x < 40 * q + J ∨ 40 * q + J + i ≤ x) → M'' 89 x = M 89 x)) ?_ 0 (Nat.zero_le _) ⟨St.rf, fun x hx => by omega, fun x _ => by rw [hs 89 rfl]⟩
      intro y M'' mj hy hs2 ih2
      obtain ⟨hs2, hc2, hc3⟩ := hs2
      show wp_X8_move_l156 K (nI q) (nI J) (nI k) (wp_X8_move_L156 K (nI q) (nI J) (nI k) mj) (nI y) M''
      unfold wp_X8_move_l156
      refine ⟨fun q7 => ?_, fun q7 => ?_⟩
      · have hyk : y = k := by have := le_of_nI q7 (by omega) (by omega); omega
        subst hyk
        exact hg p q z1 z2 I J y hp hq rfl rfl ez1 hz1 ez2 hz2 m1 m2 m3 rfl rfl rfl (by omega) (by omega) _ ((hs.w (by simp <;> omega)).tr (hs2.w (by simp <;> omega))) hc2 hc3
      · have hy2 : y < k := lt_of_nI q7 (by omega) (by omega)
        rw [ixx, nI_1, nI_clamp (by omega), nI_clamp (by omega)]
        refine ⟨vp_in_nI (by omega) (by decide), vp_in_nI (by omega) (by decide), ih2 _ hy2 ⟨hs2.up rfl, fun x hx => ?_, fun x hx => by rw [up_slot _ (by omega)]; exact hc3 x (by omega)⟩⟩
        by_cases e : x = y
        · subst e; rw [up_same, hs2 90 rfl]; exact hc x (by omega)
        · rw [up_slot _ (by omega)]; exact hc2 x (by omega)
    · have hk2 : k < N := lt_of_nI q6 (by omega) (by omega)
      rw [ixx, nI_1, nI_clamp (by omega), nI_clamp (by omega)]
      refine ⟨vp_in_nI (by omega) (by decide), vp_in_nI (by omega) (by decide), ih _ hk2 ⟨hs.up rfl, fun x hx => ?_⟩⟩
      by_cases e : x = k
      · subst e; rw [up_same, hs 89 rfl]
      · rw [up_slot _ e]; exact hc x (by omega)
  · have p5 := ti_nle rfl (hsub z2 hz2) q5
    have := h.2.2.2; omega
end MS
