section E_p_inArea
variable {n : Nat} {M : Mem} {K : Int32 → Mem → Prop}
theorem pe_inArea {a : Int32} (hC : CN n M) (hg : 0 ≤ a.toInt → a.toInt ≤ 9 → K (setIn (fun q => M (14 + q) 2) a n) M) (hb : ¬ (0 ≤ a.toInt ∧ a.toInt ≤ 9) → ∀ M1, PC (erI (-1000000001)) M M1 → K (-1000000001) M1) : wp_X7_inArea a M K := by
  have hn := hC.1
  unfold wp_X7_inArea
  refine w7n 0 9 (by decide) (by decide) (fun g1 g2 => ?_) (fun g => e7 1 (by decide) (by decide) (hb g _ (pc_e (by decide) (by decide))))
  unfold wp_X0_setInArea
  refine loopNA (L := fun k s i M' => wp_X0_setInArea_L4 (fun r5 M5 => K r5 M5) 12 a k s i M') n (fun i s M' => s = setIn (fun q => M (14 + q) 2) a i ∧ M' = M) ?_ 0 (Nat.zero_le _) ⟨rfl, rfl⟩
  intro i s M' k hi e ih
  obtain ⟨rfl, rfl⟩ := e
  show wp_X0_setInArea_l4 (fun r5 M5 => K r5 M5) 12 a (wp_X0_setInArea_L4 (fun r5 M5 => K r5 M5) 12 a k) _ (nI i) M'
  unfold wp_X0_setInArea_l4
  rw [hC.2.1]
  refine ⟨fun q => ?_, fun q => ?_⟩
  · have : i = n := by have := le_of_nI q (by omega) (by omega); omega
    subst this
    exact hg g1 g2
  · have hi2 : i < n := lt_of_nI q (by omega) (by omega)
    rw [nI_1, GF12.one (by omega)]
    refine ⟨GF12.vp (by omega), fun e => ih _ _ hi2 ⟨?_, rfl⟩, fun e => ih _ _ hi2 ⟨?_, rfl⟩⟩
    · show _ = setIn (fun q => M' (14 + q) 2) a (i + 1)
      rw [setIn, if_neg e]
    · show _ = setIn (fun q => M' (14 + q) 2) a (i + 1)
      rw [setIn, if_pos e]
end E_p_inArea
section E_m_inArea
variable {n : Nat} {M : Mem} {K : Int32 → Mem → Prop}
theorem me_inArea {a : Int32} (hR : RO n (M 80)) (hg : 0 ≤ a.toInt → a.toInt ≤ 9 → K (setIn (fun q => M 80 (13 + 7 * q)) a n) M) (hb : ¬ (0 ≤ a.toInt ∧ a.toInt ≤ 9) → ∀ M1, PM (erI (-1000000001)) M M1 → K (-1000000001) M1) : wp_X8_inArea a M K := by
  have hn := hR.1
  unfold wp_X8_inArea
  refine m_arean (fun g1 g2 => ?_) (fun g => e8 1 (by decide) (by decide) (hb g _ (pm_e (by decide) (by decide))))
  refine loopNA (L := fun k s i M' => wp_X8_inArea_L18 K a k s i M') n (fun i s M' => s = setIn (fun q => M 80 (13 + 7 * q)) a i ∧ M' = M) ?_ 0 (Nat.zero_le _) ⟨rfl, rfl⟩
  intro i s M' k hi e ih
  obtain ⟨rfl, rfl⟩ := e
  show wp_X8_inArea_l18 K a (wp_X8_inArea_L18 K a k) _ (nI i) M'
  unfold wp_X8_inArea_l18
  rw [hR.2.1]
  refine ⟨fun q => ?_, fun q => ?_⟩
  · have : i = n := by have := le_of_nI q (by omega) (by omega); omega
    subst this
    exact hg g1 g2
  · have hi2 : i < n := lt_of_nI q (by omega) (by omega)
    rw [nI_1]
    refine m_its 2 (by omega) ?_
    rw [show 11 + 7 * i + 2 = 13 + 7 * i by omega]
    refine ⟨fun e => ih _ _ hi2 ⟨?_, rfl⟩, fun e => ih _ _ hi2 ⟨?_, rfl⟩⟩
    · show _ = setIn (fun q => M' 80 (13 + 7 * q)) a (i + 1)
      rw [setIn, if_neg e]
    · show _ = setIn (fun q => M' 80 (13 + 7 * q)) a (i + 1)
      rw [setIn, if_pos e]
end E_m_inArea
section E_p_become
variable {n : Nat} {M : Mem} {K : Int32 → Mem → Prop}
theorem pe_become {a km : Int32} (hC : CN n M) (hg : ∀ j : Nat, j < n → a = nI j → 0 ≤ km.toInt → km.toInt ≤ 69 → K (M (14 + j) 0) (up (up M (14 + j) 0 (km / 10)) (14 + j) 1 (km - km / 10 * 10)))
    (hb : ¬ ((0 ≤ a.toInt ∧ a.toInt < n) ∧ 0 ≤ km.toInt ∧ km.toInt ≤ 69) → ∀ M1, PC (erI (-1000000001)) M M1 → K (-1000000001) M1) : wp_X7_become a km M K := by
  have hn := hC.1
  unfold wp_X7_become
  refine q7z hC.1 hC.2.1 (fun j hj ej => ?_) (fun g => e7 1 (by decide) (by decide) (hb (fun h => g h.1) _ (pc_e (by decide) (by decide))))
  subst ej
  unfold wp_X7_isKindAndM
  refine w7 0 69 (by decide) (by decide) (fun g1 g2 => ⟨Or.inr rfl, b1b ?_⟩) (fun g => ⟨Or.inl rfl, b0b (e7 1 (by decide) (by decide) (hb (fun h => g h.2) _ (pc_e (by decide) (by decide))))⟩)
  rw [nI_clamp (by omega)]
  unfold wp_X1_turnInto
  exact ⟨vp_in_nI (by omega) (by decide), hg j hj rfl g1 g2⟩
end E_p_become
section E_m_become
variable {n : Nat} {M : Mem} {K : Int32 → Mem → Prop}
theorem me_become {a km : Int32} (hR : RO n (M 80)) (hg : ∀ j : Nat, j < n → a = nI j → 0 ≤ km.toInt → km.toInt ≤ 69 → K (M 80 (11 + 7 * j)) (up (up M 80 (12 + 7 * j) (km - km / 10 * 10)) 80 (11 + 7 * j) (km / 10)))
    (hb : ¬ ((0 ≤ a.toInt ∧ a.toInt < n) ∧ 0 ≤ km.toInt ∧ km.toInt ≤ 69) → ∀ M1, PM (erI (-1000000001)) M M1 → K (-1000000001) M1) : wp_X8_become a km M K := by
  have hn := hR.1
  unfold wp_X8_become
  refine q8z hR.1 hR.2.1 (fun j hj ej => ?_) (fun g => e8 1 (by decide) (by decide) (hb (fun h => g h.1) _ (pm_e (by decide) (by decide))))
  subst ej
  refine w8n 0 69 (by decide) (by decide) (fun g1 g2 => ?_) (fun g => e8 1 (by decide) (by decide) (hb (fun h => g h.2) _ (pm_e (by decide) (by decide))))
  refine m_gets 1 (by omega) ?_
  rw [ixb]
  refine m_becomes (by omega) ?_
  have := hg j hj rfl g1 g2
  rw [up_slot _ (by omega), show 11 + 7 * j + 1 = 12 + 7 * j by omega]
  exact this
end E_m_become
section E_p_as
variable {n : Nat} {M : Mem} {K : Int32 → Mem → Prop}
theorem pe_as {a b : Int32} (hC : CN n M) (hA : KA M) (hK : ∀ q : Nat, q < n → KindOK (M (14 + q) 0)) (hg : ∀ j k c : Nat, j < n → a = nI j → k ≤ 6 → M (14 + j) 0 = nI k → c ≤ 6 → b = nI c → (isOf k c = true → K (M (14 + j) 1) M) ∧ (isOf k c = false → ∀ M1, PC (erI (-1000000005)) M M1 → K (-1000000005) M1))
    (hb : ¬ ((0 ≤ a.toInt ∧ a.toInt < n) ∧ 0 ≤ b.toInt ∧ b.toInt ≤ 6) → ∀ M1, PC (erI (-1000000001)) M M1 → K (-1000000001) M1) : wp_X7_as a b M K := by
  have hn := hC.1
  unfold wp_X7_as
  refine q7z hC.1 hC.2.1 (fun j hj ej => ?_) (fun g => e7 1 (by decide) (by decide) (hb (fun h => g h.1) _ (pc_e (by decide) (by decide))))
  subst ej
  refine w7n 0 6 (by decide) (by decide) (fun g1 g2 => ?_) (fun g => e7 1 (by decide) (by decide) (hb (fun h => g h.2) _ (pc_e (by decide) (by decide))))
  obtain ⟨c, hc, rfl⟩ := nat_of (x := b) 6 g1 g2 (by decide)
  obtain ⟨k, hk, ek⟩ := hK j hj
  rw [nI_clamp (by omega)]
  refine ⟨vp_in_nI (by omega) (by decide), ?_⟩
  obtain ⟨hy, hno⟩ := hg j k c hj rfl hk ek hc rfl
  have yes : isOf k c = true → ((1 : Int32) = 0 → wp_X7_refuse (-1000000005) M (fun r13 M13 => K r13 M13)) ∧ (¬ (1 : Int32) = 0 → K (M (14 + j) 1) M) := fun h => b1a (hy h)
  have no : isOf k c = false → ((0 : Int32) = 0 → wp_X7_refuse (-1000000005) M (fun r13 M13 => K r13 M13)) ∧ (¬ (0 : Int32) = 0 → K (M (14 + j) 1) M) := fun h => b0a (e7 5 (by decide) (by decide) (hno h _ (pc_e (by decide) (by decide))))
  unfold wp_X1_isOfKind
  rw [ek, nI_clamp (by omega)]
  refine pk_eq c k (fun e => yes (by simp [isOf, e])) (fun e => ⟨vp_in_nI (by omega) (by decide), ?_⟩)
  obtain ⟨a0, a1, a2, a3, a4, a5, a6⟩ := hA
  have fin : ¬ c = above k → (¬ nI c = 0 → ((0 : Int32) = 0 → wp_X7_refuse (-1000000005) M (fun r13 M13 => K r13 M13)) ∧ (¬ (0 : Int32) = 0 → K (M (14 + j) 1) M)) ∧ (nI c = 0 → ((1 : Int32) = 0 → wp_X7_refuse (-1000000005) M (fun r13 M13 => K r13 M13)) ∧ (¬ (1 : Int32) = 0 → K (M (14 + j) 1) M)) := by
    intro e2
    refine ⟨fun e3 => no ?_, fun e3 => yes ?_⟩
    · have : c ≠ 0 := fun h => e3 (by rw [h]; rfl)
      simp [isOf, e, e2, this]
    · have : c = 0 := (nI_eq (by omega) (by omega)).mp (show nI c = nI 0 from e3)
      simp [isOf, this]
  rcases (by omega : k = 0 ∨ k = 1 ∨ k = 2 ∨ k = 3 ∨ k = 4 ∨ k = 5 ∨ k = 6) with rfl | rfl | rfl | rfl | rfl | rfl | rfl
  · rw [a0]
    exact ⟨fun h => absurd (show (nI c).toInt = -1 by rw [h]; rfl) (by rw [nI_toInt (by omega)]; omega), fun _ => fin (by simpa [above] using e)⟩
  · rw [a1]; exact pk_eq c 0 (fun h => yes (by simp [isOf, h])) (fun h => fin (by simpa [above] using h))
  · rw [a2]; exact pk_eq c 0 (fun h => yes (by simp [isOf, h])) (fun h => fin (by simpa [above] using h))
  · rw [a3]; exact pk_eq c 0 (fun h => yes (by simp [isOf, h])) (fun h => fin (by simpa [above] using h))
  · rw [a4]; exact pk_eq c 1 (fun h => yes (by simp [isOf, above, h])) (fun h => fin (by simpa [above] using h))
  · rw [a5]; exact pk_eq c 2 (fun h => yes (by simp [isOf, above, h])) (fun h => fin (by simpa [above] using h))
  · rw [a6]; exact pk_eq c 3 (fun h => yes (by simp [isOf, above, h])) (fun h => fin (by simpa [above] using h))
end E_p_as
section E_m_as
variable {n : Nat} {M : Mem} {K : Int32 → Mem → Prop}
theorem me_as {a b : Int32} (hR : RO n (M 80)) (hK : ∀ q : Nat, q < n → KindOK (M 80 (11 + 7 * q))) (hg : ∀ j k c : Nat, j < n → a = nI j → k ≤ 6 → M 80 (11 + 7 * j) = nI k → c ≤ 6 → b = nI c → (isOf k c = true → K (M 80 (12 + 7 * j)) M) ∧ (isOf k c = false → ∀ M1, PM (erI (-1000000005)) M M1 → K (-1000000005) M1))
    (hb : ¬ ((0 ≤ a.toInt ∧ a.toInt < n) ∧ 0 ≤ b.toInt ∧ b.toInt ≤ 6) → ∀ M1, PM (erI (-1000000001)) M M1 → K (-1000000001) M1) : wp_X8_as a b M K := by
  have hn := hR.1
  unfold wp_X8_as
  refine q8z hR.1 hR.2.1 (fun j hj ej => ?_) (fun g => e8 1 (by decide) (by decide) (hb (fun h => g h.1) _ (pm_e (by decide) (by decide))))
  subst ej
  refine w8n 0 6 (by decide) (by decide) (fun g1 g2 => ?_) (fun g => e8 1 (by decide) (by decide) (hb (fun h => g h.2) _ (pm_e (by decide) (by decide))))
  obtain ⟨c, hc, rfl⟩ := nat_of (x := b) 6 g1 g2 (by decide)
  obtain ⟨k, hk, ek⟩ := hK j hj
  obtain ⟨hy, hno⟩ := hg j k c hj rfl hk ek hc rfl
  refine m_its 0 (by omega) ?_
  rw [show 11 + 7 * j + 0 = 11 + 7 * j by omega, ek]
  have yes : isOf k c = true → wp_X8_its (nI j) 1 M (fun r N => K r N) := fun h => m_its 1 (by omega) (by rw [show 11 + 7 * j + 1 = 12 + 7 * j by omega]; exact hy h)
  have no : isOf k c = false → wp_X8_errs (-1000000005) M (fun r N => K r N) := fun h => e8 5 (by decide) (by decide) (hno h _ (pm_e (by decide) (by decide)))
  -- a round at the KIND f
  have hit : ∀ m f, f ≤ 6 → (f = c → isOf k c = true) → (f ≠ c → wp_X8_above (nI f) M (fun r3 M3 => wp_X8_as_L32 K (nI j) (nI c) m r3 M3)) → wp_X8_as_L32 K (nI j) (nI c) (m + 1) (nI f) M := by
    intro m f hf h1 h2
    show wp_X8_as_l32 K (nI j) (nI c) (wp_X8_as_L32 K (nI j) (nI c) m) (nI f) M
    unfold wp_X8_as_l32
    refine ⟨fun q => absurd q (nI_pos (by omega)), fun _ => pk_eq f c (fun e => ⟨fun _ => yes (h1 e), fun q => absurd (nI_pos' (by omega)) q⟩) h2⟩
  have hend : ∀ m, isOf k c = false → wp_X8_as_L32 K (nI j) (nI c) (m + 1) (-1) M := by
    intro m h
    show wp_X8_as_l32 K (nI j) (nI c) (wp_X8_as_L32 K (nI j) (nI c) m) (-1) M
    unfold wp_X8_as_l32
    exact ⟨fun _ => ⟨fun q => absurd q (by decide), fun _ => no h⟩, fun q => absurd (by decide) q⟩
  have h0 : ∀ m, (c ≠ 0 → isOf k c = false) → wp_X8_as_L32 K (nI j) (nI c) (m + 2) (nI 0) M := by
    intro m h
    refine hit _ 0 (by omega) (fun e => by subst e; simp [isOf]) (fun e => ?_)
    unfold wp_X8_above
    exact ⟨fun q => absurd rfl q, fun _ => hend _ (h (Ne.symm e))⟩
  -- KINDS 1, 2, 3
  have h3 : ∀ m f, 1 ≤ f → f ≤ 3 → (f = c → isOf k c = true) → (c ≠ f → c ≠ 0 → isOf k c = false) → wp_X8_as_L32 K (nI j) (nI c) (m + 3) (nI f) M := by
    intro m f hf1 hf3 h1 h2
    refine hit _ f (by omega) h1 (fun e => ?_)
    unfold wp_X8_above
    refine ⟨fun _ => ⟨fun _ => h0 _ (h2 (Ne.symm e)), fun q => absurd (nI_le (a := f) (b := 3) hf3 (by omega)) q⟩, fun q => absurd q (nI_ne0 (by omega) (by omega))⟩
  refine ⟨4, ?_⟩
  rcases (by omega : k = 0 ∨ (1 ≤ k ∧ k ≤ 3) ∨ (4 ≤ k ∧ k ≤ 6)) with rfl | ⟨k1, k3⟩ | ⟨k4, k6⟩
  · exact h0 2 (fun e => by simp [isOf, above, e])
  · refine h3 1 k k1 k3 (fun e => by subst e; simp [isOf]) (fun e1 e0 => ?_)
    have ha : above k = 0 := by unfold above; rw [if_neg (by omega), if_neg (by omega), if_neg (by omega)]
    simp [isOf, ha, e1, e0]
  · have ha : above k = k - 3 := by
      unfold above
      rcases (by omega : k = 4 ∨ k = 5 ∨ k = 6) with rfl | rfl | rfl <;> rfl
    refine hit 3 k k6 (fun e => by subst e; simp [isOf]) (fun e => ?_)
    unfold wp_X8_above
    refine ⟨fun _ => ⟨fun q => absurd q (nI_ge (a := 3) (b := k) (by omega) (by omega)), fun _ => ?_⟩, fun q => absurd q (nI_ne0 (by omega) (by omega))⟩
    rw [show (3 : Int32) = nI 3 from rfl, pk_sub (by omega)]
    refine h3 0 (k - 3) (by omega) (by omega) (fun e2 => by rw [← ha] at e2; simp [isOf, e2]) (fun e1 e0 => ?_)
    rw [← ha] at e1
    simp [isOf, Ne.symm e, e1, e0]
end E_m_as
section E_p_trace
theorem pe_trace {z : Nat} {M : Mem} {K : Int32 → Mem → Prop} {a : Int32} (hz : z ≤ 40) (ez : M 67 1 = nI z) (hg : ∀ j : Nat, j < z → a = nI j → K (M 68 j) M) (hb : ¬ (0 ≤ a.toInt ∧ a.toInt < z) → ∀ M1, PC (erI (-1000000002)) M M1 → K (-1000000002) M1) : wp_X7_trace a M K := by
  unfold wp_X7_trace
  rw [ez]
  refine w7z 0 ((z : Int) - 1) (by decide) (nI_m1 (by omega)) (fun g1 g2 => ?_) (fun g => e7 2 (by decide) (by decide) (hb (by omega) _ (pc_e (by decide) (by decide))))
  obtain ⟨j, hj, rfl⟩ := nat_of (x := a) 39 g1 (by omega) (by decide)
  rw [nI_toInt (by omega)] at g2
  rw [nI_clamp (by omega)]
  exact ⟨vp_in_nI (by omega) (by decide), hg j (by omega) rfl⟩

end E_p_trace
section E_m_trace
theorem me_trace {z : Nat} {M : Mem} {K : Int32 → Mem → Prop} {a : Int32} (hz : z ≤ 40) (ez : M 79 20 = nI z) (hg : ∀ j : Nat, j < z → a = nI j → K (M 91 j) M) (hb : ¬ (0 ≤ a.toInt ∧ a.toInt < z) → ∀ M1, PM (erI (-1000000002)) M M1 → K (-1000000002) M1) : wp_X8_trace a M K := by
  unfold wp_X8_trace
  rw [ez]
  refine w8z 0 ((z : Int) - 1) (by decide) (nI_m1 (by omega)) (fun g1 g2 => ?_) (fun g => e8 2 (by decide) (by decide) (hb (by omega) _ (pm_e (by decide) (by decide))))
  obtain ⟨j, hj, rfl⟩ := nat_of (x := a) 39 g1 (by omega) (by decide)
  rw [nI_toInt (by omega)] at g2
  rw [nI_clamp (by omega)]
  exact ⟨vp_in_nI (by omega) (by decide), hg j (by omega) rfl⟩

end E_m_trace
section E_p_sheet
variable {n : Nat} {M : Mem} {K : Int32 → Mem → Prop}
theorem pe_sheet {a b c : Int32} (hg : ∀ j z : Nat, j < 4 → a = nI j → z ≤ 40 → (b = 0 → z = 0) → (¬ b = 0 → c = nI z) → ∀ M1, St (fun b => b == 70 + 2 * j || b == 71 + 2 * j) M M1 → M1 (70 + 2 * j) 1 = b → M1 (70 + 2 * j) 2 = nI z → (∀ k, k < 40 → M1 (71 + 2 * j) k = 0) → shAns a b c = 1 → K (shAns a b c) M1)
    (hb : shAns a b c ≠ 1 → ∀ M1, PC (erI (shAns a b c)) M M1 → K (shAns a b c) M1) : wp_X7_sheet a b c M K := by
  unfold wp_X7_sheet
  refine s7 (fun j hj ej => b1a ?_) (fun g => b0a ?_)
  · subst ej
    have ea : 0 ≤ (nI j).toInt ∧ (nI j).toInt ≤ 3 := by rw [nI_toInt (by omega)]; omega
    have hblk : (b = 0 ∨ b = 8 ∨ b = 16 ∨ b = 32) → (¬ b = 0 → 0 ≤ c.toInt) → wp_X7_sheet_b51 K (nI j) b c M := by
      intro hbits hc0
      unfold wp_X7_sheet_b51
      rw [nI_clamp (by omega)]
      have hl : ∀ z : Nat, z ≤ 40 → (b = 0 → z = 0) → (¬ b = 0 → c = nI z) → wp_X3_lay (70 + 2 * j) b (nI z) M (fun M1 => K 1 M1) := by
        intro z hz h0 h1
        have e1 : shAns (nI j) b c = 1 := by
          unfold shAns
          rw [if_neg (fun h => h ea), if_neg (fun h => h hbits), if_neg (fun h => by have := hc0 h.1; omega), if_neg (fun h => ?_)]
          have := h1 h.1
          have h2 := h.2
          rw [this, nI_toInt (by omega)] at h2; omega
        refine p_lay (rf_sh hj) (ln_sh hj) (by omega) (fun M1 g1 g2 g3 g4 => ?_)
        have := hg j z hj rfl hz h0 h1 M1 g1 g2 g3 g4 e1
        rw [e1] at this; exact this
      refine ⟨fun e => ⟨vp_in_nI hj (by decide), fun e2 => absurd e e2, fun _ => hl 0 (by omega) (fun _ => rfl) (fun h => absurd e h)⟩, fun e => ⟨fun q => ⟨vp_in_nI hj (by decide), fun _ => ?_, fun e2 => absurd e2 e⟩, fun q => ?_⟩⟩
      · have q2 := ti_le rfl (show (40 : Int32).toInt = 40 by decide) q
        obtain ⟨z, hz, rfl⟩ := nat_of (x := c) 40 (hc0 e) q2 (by decide)
        exact hl z hz (fun h => absurd h e) (fun _ => rfl)
      · have q2 := ti_nle rfl (show (40 : Int32).toInt = 40 by decide) q
        have e1 : shAns (nI j) b c = -1000000001 := by
          unfold shAns
          rw [if_neg (fun h => h ea), if_neg (fun h => h hbits), if_neg (fun h => by have := hc0 h.1; omega), if_pos ⟨e, by omega⟩]
        have := hb (by rw [e1]; decide) (up M 78 1 (M 78 1 + 1)) (by rw [e1]; exact pc_e (i := 1) (by decide) (by decide))
        rw [e1] at this
        exact e7 1 (by decide) (by decide) this
    have hneg : (b = 0 ∨ b = 8 ∨ b = 16 ∨ b = 32) → (¬ b = 0) → ¬ 0 ≤ c → wp_X7_refuse (-1000000003) M (fun r7 M7 => K r7 M7) := by
      intro hbits e q
      have q2 := ti_nle (show (0 : Int32).toInt = 0 by decide) rfl q
      have e1 : shAns (nI j) b c = -1000000003 := by
        unfold shAns
        rw [if_neg (fun h => h ea), if_neg (fun h => h hbits), if_pos ⟨e, q2⟩]
      have := hb (by rw [e1]; decide) (up M 78 3 (M 78 3 + 1)) (by rw [e1]; exact pc_e (i := 3) (by decide) (by decide))
      rw [e1] at this
      exact e7 3 (by decide) (by decide) this
    have hall : (b = 0 ∨ b = 8 ∨ b = 16 ∨ b = 32) → (b = 0 → wp_X7_sheet_b51 K (nI j) b c M) ∧ (¬ b = 0 → (0 ≤ c → wp_X7_sheet_b51 K (nI j) b c M) ∧ (¬ 0 ≤ c → wp_X7_refuse (-1000000003) M (fun r7 M7 => K r7 M7))) := fun hbits =>
      ⟨fun e => hblk hbits (fun h => absurd e h), fun e => ⟨fun q => hblk hbits (fun _ => by have := ti_le (show (0 : Int32).toInt = 0 by decide) rfl q; omega), fun q => hneg hbits e q⟩⟩
    refine ⟨fun e => hall (Or.inl e), fun e0 => ⟨fun e => hall (Or.inr (Or.inl e)), fun e8 => ⟨fun e => hall (Or.inr (Or.inr (Or.inl e))), fun e16 => ⟨fun e => hall (Or.inr (Or.inr (Or.inr e))), fun e32 => ?_⟩⟩⟩⟩
    have e1 : shAns (nI j) b c = -1000000001 := by
      unfold shAns
      rw [if_neg (fun h => h ea), if_pos (fun h => by rcases h with h | h | h | h <;> contradiction)]
    have := hb (by rw [e1]; decide) (up M 78 1 (M 78 1 + 1)) (by rw [e1]; exact pc_e (i := 1) (by decide) (by decide))
    rw [e1] at this
    exact e7 1 (by decide) (by decide) this
  · have e1 : shAns a b c = -1000000001 := by
      unfold shAns
      rw [if_pos g]
    have := hb (by rw [e1]; decide) (up M 78 1 (M 78 1 + 1)) (by rw [e1]; exact pc_e (i := 1) (by decide) (by decide))
    rw [e1] at this
    exact e7 1 (by decide) (by decide) this
end E_p_sheet
section E_m_sheet
variable {n : Nat} {M : Mem} {K : Int32 → Mem → Prop}
theorem me_sheet {a b c : Int32} (hg : ∀ j z : Nat, j < 4 → a = nI j → z ≤ 40 → (b = 0 → z = 0) → (¬ b = 0 → c = nI z) → ∀ M1, St (fun b => b == 87 || b == 88 || b == 89) M M1 → M1 87 j = b → M1 88 j = nI z → (∀ k, k ≠ j → M1 87 k = M 87 k ∧ M1 88 k = M 88 k) → (∀ k, k < 40 → M1 89 (40 * j + k) = 0) → (∀ k, (k < 40 * j ∨ 40 * j + 40 ≤ k) → M1 89 k = M 89 k) → shAns a b c = 1 → K (shAns a b c) M1)
    (hb : shAns a b c ≠ 1 → ∀ M1, PM (erI (shAns a b c)) M M1 → K (shAns a b c) M1) : wp_X8_sheet a b c M K := by
  unfold wp_X8_sheet
  refine s8 (fun j hj ej => b1a ?_) (fun g => b0a ?_)
  · subst ej
    have ea : 0 ≤ (nI j).toInt ∧ (nI j).toInt ≤ 3 := by rw [nI_toInt (by omega)]; omega
    have hv : vp_in (nI j) 4 := vp_in_nI hj (by decide)
    have hblk : (b = 0 ∨ b = 8 ∨ b = 16 ∨ b = 32) → (¬ b = 0 → 0 ≤ c.toInt) → wp_X8_sheet_b51 K (nI j) b c M := by
      intro hbits hc0
      unfold wp_X8_sheet_b51
      rw [nI_clamp (by omega)]
      have hl : ∀ z : Nat, z ≤ 40 → (b = 0 → z = 0) → (¬ b = 0 → c = nI z) → ∃ m, wp_X8_sheet_L93 K (nI j) m 0 (up (up M 87 j b) 88 j (nI z)) := by
        intro z hz h0 h1
        have e1 : shAns (nI j) b c = 1 := by
          unfold shAns
          rw [if_neg (fun h => h ea), if_neg (fun h => h hbits), if_neg (fun h => by have := hc0 h.1; omega), if_neg (fun h => ?_)]
          have := h1 h.1
          have h2 := h.2
          rw [this, nI_toInt (by omega)] at h2; omega
        refine loopN (L := fun m i M' => wp_X8_sheet_L93 K (nI j) m i M') 40 (fun i M' => St (fun b => b == 87 || b == 88 || b == 89) M M' ∧ M' 87 j = b ∧ M' 88 j = nI z ∧ (∀ k, k ≠ j → M' 87 k = M 87 k ∧ M' 88 k = M 88 k) ∧ (∀ k, k < i → M' 89 (40 * j + k) = 0) ∧ (∀ k, (k < 40 * j ∨ 40 * j + 40 ≤ k) → M' 89 k = M 89 k)) ?_ 0 (Nat.zero_le _) ⟨(St.rf.up rfl).up rfl, by rw [up_cell (by decide), up_same], up_same, fun k hk => ⟨by rw [up_cell (by decide), up_slot _ hk], by rw [up_slot _ hk, up_cell (by decide)]⟩, fun k hk => by omega, fun k _ => by rw [up_cell (by decide), up_cell (by decide)]⟩
        intro i M' m hi hs ih
        obtain ⟨s1, s2, s3, s4, s5, s6⟩ := hs
        show wp_X8_sheet_l93 K (nI j) (wp_X8_sheet_L93 K (nI j) m) (nI i) M'
        unfold wp_X8_sheet_l93
        rw [ix40, nI_1]
        refine ⟨fun q => ?_, fun q => ?_⟩
        · have h40 := le_of_nI (a := 40) q (by omega) (by omega)
          have := hg j z hj rfl hz h0 h1 M' s1 s2 s3 s4 (fun k hk => s5 k (by omega)) s6 e1
          rw [e1] at this; exact this
        · have hi2 : i < 40 := lt_of_nI (a := 40) q (by omega) (by omega)
          rw [nI_clamp (by omega)]
          refine ⟨vp_in_nI (by omega) (by decide), ih _ hi2 ⟨s1.up rfl, by rw [up_cell (by decide)]; exact s2, by rw [up_cell (by decide)]; exact s3, fun k hk => ⟨by rw [up_cell (by decide)]; exact (s4 k hk).1, by rw [up_cell (by decide)]; exact (s4 k hk).2⟩, fun k hk => ?_, fun k hk => by rw [up_slot _ (by omega)]; exact s6 k hk⟩⟩
          by_cases e : k = i
          · subst e; exact up_same
          · rw [up_slot _ (by omega)]; exact s5 k (by omega)
      refine ⟨fun e => ⟨hv, fun e2 => absurd e e2, fun _ => ⟨hv, hl 0 (by omega) (fun _ => rfl) (fun h => absurd e h)⟩⟩, fun e => ⟨fun q => ⟨hv, fun _ => ⟨hv, ?_⟩, fun e2 => absurd e2 e⟩, fun q => ?_⟩⟩
      · have q2 := ti_le rfl (show (40 : Int32).toInt = 40 by decide) q
        obtain ⟨z, hz, rfl⟩ := nat_of (x := c) 40 (hc0 e) q2 (by decide)
        exact hl z hz (fun h => absurd h e) (fun _ => rfl)
      · have q2 := ti_nle rfl (show (40 : Int32).toInt = 40 by decide) q
        have e1 : shAns (nI j) b c = -1000000001 := by
          unfold shAns
          rw [if_neg (fun h => h ea), if_neg (fun h => h hbits), if_neg (fun h => by have := hc0 h.1; omega), if_pos ⟨e, by omega⟩]
        have := hb (by rw [e1]; decide) (up M 83 1 (M 83 1 + 1)) (by rw [e1]; exact pm_e (i := 1) (by decide) (by decide))
        rw [e1] at this
        exact e8 1 (by decide) (by decide) this
    have hneg : (b = 0 ∨ b = 8 ∨ b = 16 ∨ b = 32) → (¬ b = 0) → ¬ 0 ≤ c → wp_X8_errs (-1000000003) M (fun r7 M7 => K r7 M7) := by
      intro hbits e q
      have q2 := ti_nle (show (0 : Int32).toInt = 0 by decide) rfl q
      have e1 : shAns (nI j) b c = -1000000003 := by
        unfold shAns
        rw [if_neg (fun h => h ea), if_neg (fun h => h hbits), if_pos ⟨e, q2⟩]
      have := hb (by rw [e1]; decide) (up M 83 3 (M 83 3 + 1)) (by rw [e1]; exact pm_e (i := 3) (by decide) (by decide))
      rw [e1] at this
      exact e8 3 (by decide) (by decide) this
    have hall : (b = 0 ∨ b = 8 ∨ b = 16 ∨ b = 32) → (b = 0 → wp_X8_sheet_b51 K (nI j) b c M) ∧ (¬ b = 0 → (0 ≤ c → wp_X8_sheet_b51 K (nI j) b c M) ∧ (¬ 0 ≤ c → wp_X8_errs (-1000000003) M (fun r7 M7 => K r7 M7))) := fun hbits =>
      ⟨fun e => hblk hbits (fun h => absurd e h), fun e => ⟨fun q => hblk hbits (fun _ => by have := ti_le (show (0 : Int32).toInt = 0 by decide) rfl q; omega), fun q => hneg hbits e q⟩⟩
    refine ⟨fun e => hall (Or.inl e), fun e0 => ⟨fun e => hall (Or.inr (Or.inl e)), fun e8' => ⟨fun e => hall (Or.inr (Or.inr (Or.inl e))), fun e16 => ⟨fun e => hall (Or.inr (Or.inr (Or.inr e))), fun e32 => ?_⟩⟩⟩⟩
    have e1 : shAns (nI j) b c = -1000000001 := by
      unfold shAns
      rw [if_neg (fun h => h ea), if_pos (fun h => by rcases h with h | h | h | h <;> contradiction)]
    have := hb (by rw [e1]; decide) (up M 83 1 (M 83 1 + 1)) (by rw [e1]; exact pm_e (i := 1) (by decide) (by decide))
    rw [e1] at this
    exact e8 1 (by decide) (by decide) this
  · have e1 : shAns a b c = -1000000001 := by
      unfold shAns
      rw [if_pos g]
    have := hb (by rw [e1]; decide) (up M 83 1 (M 83 1 + 1)) (by rw [e1]; exact pm_e (i := 1) (by decide) (by decide))
    rw [e1] at this
    exact e8 1 (by decide) (by decide) this
end E_m_sheet
section E_p_put
variable {n : Nat} {M : Mem} {K : Int32 → Mem → Prop}
theorem pe_put {a i v : Int32} (hS : SHc M) (hg : ∀ j z k : Nat, j < 4 → a = nI j → M (70 + 2 * j) 2 = nI z → z ≤ 40 → ¬ M (70 + 2 * j) 1 = 0 → k < z → i = nI k → K 1 (up M (71 + 2 * j) k (narB (M (70 + 2 * j) 1) v)))
    (hb : ¬ (0 ≤ a.toInt ∧ a.toInt ≤ 3) → ∀ M1, PC (erI (-1000000001)) M M1 → K (-1000000001) M1) (hm : ∀ j : Nat, j < 4 → a = nI j → M (70 + 2 * j) 1 = 0 → ∀ M1, PC (erI (-1000000002)) M M1 → K (-1000000002) M1)
    (hr : ∀ j z : Nat, j < 4 → a = nI j → M (70 + 2 * j) 2 = nI z → z ≤ 40 → ¬ M (70 + 2 * j) 1 = 0 → ¬ (0 ≤ i.toInt ∧ i.toInt < z) → ∀ M1, PC (erI (-1000000001)) M M1 → K (-1000000001) M1) : wp_X7_put a i v M K := by
  unfold wp_X7_put
  refine s7 (fun j hj ej => b1b ?_) (fun g => b0b (e7 1 (by decide) (by decide) (hb g _ (pc_e (by decide) (by decide)))))
  subst ej
  rw [nI_clamp (by omega)]
  refine ⟨vp_in_nI hj (by decide), ?_⟩
  unfold wp_X3_isMissing
  refine ⟨fun q => b0a ?_, fun q => b1a (e7 2 (by decide) (by decide) (hm j hj rfl q _ (pc_e (by decide) (by decide))))⟩
  obtain ⟨z, hz, ez⟩ := hS j hj
  rw [ez]
  refine w7n 0 ((z : Int) - 1) (by decide) (nI_m1 (by omega)) (fun g1 g2 => ?_) (fun g => e7 1 (by decide) (by decide) (hr j z hj rfl ez hz q (by omega) _ (pc_e (by decide) (by decide))))
  obtain ⟨k, hk, rfl⟩ := nat_of (x := i) 39 g1 (by omega) (by decide)
  rw [nI_toInt (by omega)] at g2
  have h := hg j z k hj rfl ez hz q (by omega) rfl
  unfold wp_X3_write
  rw [rf_sh hj, ln_sh hj, nI_clamp (by omega)]
  have hv : vp_in (nI k) 40 := vp_in_nI (by omega) (by decide)
  refine ⟨fun e8 => ⟨fun e16 => ⟨hv, ?_⟩, fun e16 => ⟨hv, ?_⟩⟩, fun e8 => ⟨hv, ?_⟩⟩
  · rw [narB, if_neg e8, if_neg e16] at h; exact h
  · rw [narB, if_neg e8, if_pos e16] at h; exact h
  · rw [narB, if_pos e8] at h; exact h
end E_p_put
section E_m_put
variable {n : Nat} {M : Mem} {K : Int32 → Mem → Prop}
theorem me_put {a i v : Int32} (hS : SMc M) (hg : ∀ j z k : Nat, j < 4 → a = nI j → M 88 j = nI z → z ≤ 40 → ¬ M 87 j = 0 → k < z → i = nI k → K 1 (up M 89 (40 * j + k) (narB (M 87 j) v)))
    (hb : ¬ (0 ≤ a.toInt ∧ a.toInt ≤ 3) → ∀ M1, PM (erI (-1000000001)) M M1 → K (-1000000001) M1) (hm : ∀ j : Nat, j < 4 → a = nI j → M 87 j = 0 → ∀ M1, PM (erI (-1000000002)) M M1 → K (-1000000002) M1)
    (hr : ∀ j z : Nat, j < 4 → a = nI j → M 88 j = nI z → z ≤ 40 → ¬ M 87 j = 0 → ¬ (0 ≤ i.toInt ∧ i.toInt < z) → ∀ M1, PM (erI (-1000000001)) M M1 → K (-1000000001) M1) : wp_X8_put a i v M K := by
  unfold wp_X8_put
  refine s8 (fun j hj ej => b1b ?_) (fun g => b0b (e8 1 (by decide) (by decide) (hb g _ (pm_e (by decide) (by decide)))))
  subst ej
  have hv : vp_in (nI j) 4 := vp_in_nI hj (by decide)
  rw [nI_clamp (by omega)]
  refine ⟨hv, fun q => ⟨hv, ?_⟩, fun q => e8 2 (by decide) (by decide) (hm j hj rfl q _ (pm_e (by decide) (by decide)))⟩
  obtain ⟨z, hz, ez⟩ := hS j hj
  rw [ez]
  refine w8n 0 ((z : Int) - 1) (by decide) (nI_m1 (by omega)) (fun g1 g2 => ⟨hv, ?_⟩) (fun g => e8 1 (by decide) (by decide) (hr j z hj rfl ez hz q (by omega) _ (pm_e (by decide) (by decide))))
  obtain ⟨k, hk, rfl⟩ := nat_of (x := i) 39 g1 (by omega) (by decide)
  rw [nI_toInt (by omega)] at g2
  have h := hg j z k hj rfl ez hz q (by omega) rfl
  unfold wp_X8_narrow
  rw [ix40, nI_clamp (by omega)]
  have hv2 : vp_in (nI (40 * j + k)) 160 := vp_in_nI (by omega) (by decide)
  refine ⟨fun e8' => ⟨fun e16 => ⟨hv2, ?_⟩, fun e16 => ⟨hv2, ?_⟩⟩, fun e8' => ⟨hv2, ?_⟩⟩
  · rw [narB, if_neg e8', if_neg e16] at h; exact h
  · rw [narB, if_neg e8', if_pos e16] at h; exact h
  · rw [narB, if_pos e8'] at h; exact h
end E_m_put
section E_p_move
variable {n : Nat} {M : Mem} {K : Int32 → Mem → Prop}
theorem pe_move {s i o j c : Int32} (hS : SHc M)
    (hg : ∀ p q z1 z2 I J N : Nat, p < 4 → q < 4 → s = nI p → o = nI q → M (70 + 2 * p) 2 = nI z1 → z1 ≤ 40 → M (70 + 2 * q) 2 = nI z2 → z2 ≤ 40 → ¬ M (70 + 2 * p) 1 = 0 → ¬ M (70 + 2 * q) 1 = 0 → M (70 + 2 * p) 1 = M (70 + 2 * q) 1 → i = nI I → j = nI J → c = nI N → I + N ≤ z1 → J + N ≤ z2 → K c (upA M (71 + 2 * q) (va_cpy (M (71 + 2 * p)) (M (71 + 2 * q)) I J N)))
    (hb : ¬ ((0 ≤ s.toInt ∧ s.toInt ≤ 3) ∧ 0 ≤ o.toInt ∧ o.toInt ≤ 3) → ∀ M1, PC (erI (-1000000001)) M M1 → K (-1000000001) M1)
    (hm : ∀ p q : Nat, p < 4 → q < 4 → s = nI p → o = nI q → (M (70 + 2 * p) 1 = 0 ∨ M (70 + 2 * q) 1 = 0) → ∀ M1, PC (erI (-1000000002)) M M1 → K (-1000000002) M1)
    (hu : ∀ p q : Nat, p < 4 → q < 4 → s = nI p → o = nI q → ¬ M (70 + 2 * p) 1 = 0 → ¬ M (70 + 2 * q) 1 = 0 → ¬ M (70 + 2 * p) 1 = M (70 + 2 * q) 1 → ∀ M1, PC (erI (-1000000005)) M M1 → K (-1000000005) M1)
    (hr : ∀ p q z1 z2 : Nat, p < 4 → q < 4 → s = nI p → o = nI q → M (70 + 2 * p) 2 = nI z1 → z1 ≤ 40 → M (70 + 2 * q) 2 = nI z2 → z2 ≤ 40 → ¬ M (70 + 2 * p) 1 = 0 → ¬ M (70 + 2 * q) 1 = 0 → M (70 + 2 * p) 1 = M (70 + 2 * q) 1 → ¬ MvG z1 z2 i j c → ∀ M1, PC (erI (-1000000001)) M M1 → K (-1000000001) M1) : wp_X7_move s i o j c M K := by
  unfold wp_X7_move
  refine s7 (fun p hp ep => b1a ?_) (fun g => b0a (e7 1 (by decide) (by decide) (hb (fun h => g h.1) _ (pc_e (by decide) (by decide)))))
  subst ep
  refine s7 (fun q hq eq => b1b ?_) (fun g => b0b (e7 1 (by decide) (by decide) (hb (fun h => g h.2) _ (pc_e (by decide) (by decide)))))
  subst eq
  rw [nI_clamp (by omega), nI_clamp (by omega)]
  refine ⟨vp_in_nI hp (by decide), vp_in_nI hq (by decide), ?_⟩
  unfold wp_X3_isMissing
  refine ⟨fun m1 => b0b ?_, fun m1 => b1b (e7 2 (by decide) (by decide) (hm p q hp hq rfl rfl (Or.inl m1) _ (pc_e (by decide) (by decide))))⟩
  refine ⟨fun m2 => b0a ?_, fun m2 => b1a (e7 2 (by decide) (by decide) (hm p q hp hq rfl rfl (Or.inr m2) _ (pc_e (by decide) (by decide))))⟩
  refine ⟨fun m3 => ?_, fun m3 => e7 5 (by decide) (by decide) (hu p q hp hq rfl rfl m1 m2 m3 _ (pc_e (by decide) (by decide)))⟩
  obtain ⟨z1, hz1, ez1⟩ := hS p hp
  obtain ⟨z2, hz2, ez2⟩ := hS q hq
  have hr := hr p q z1 z2 hp hq rfl rfl ez1 hz1 ez2 hz2 m1 m2 m3
  refine hasN hz1 ez1 (fun g1 g2 g3 => hasNn hz2 ez2 (fun g4 g5 g6 => ?_) (fun g => e7 1 (by decide) (by decide) (hr (fun h => g h.2) _ (pc_e (by decide) (by decide))))) (fun g => e7 1 (by decide) (by decide) (hr (fun h => g h.1) _ (pc_e (by decide) (by decide))))
  obtain ⟨I, hI, rfl⟩ := nat_of (x := i) 40 g1 (by omega) (by decide)
  obtain ⟨J, hJ, rfl⟩ := nat_of (x := j) 40 g4 (by omega) (by decide)
  obtain ⟨N, hN, rfl⟩ := nat_of (x := c) 40 g2 (by omega) (by decide)
  rw [nI_toInt (by omega), nI_toInt (by omega)] at g3 g6
  rw [rf_sh hp, rf_sh hq, ln_sh hp, ln_sh hq, nI_clamp (by omega), nI_clamp (by omega), nI_clamp (by omega)]
  refine ⟨nI_pos (by omega), nI_pos (by omega), nI_pos (by omega), by omega, by omega, ?_⟩
  rintro _ rfl
  exact hg p q z1 z2 I J N hp hq rfl rfl ez1 hz1 ez2 hz2 m1 m2 m3 rfl rfl rfl (by omega) (by omega)
end E_p_move
section E_m_moveS
variable {n : Nat} {M : Mem} {K : Int32 → Mem → Prop}
theorem me_moveS {s i o j c : Int32} (hS : SMc M)
    (hg : ∀ p q z1 z2 I J N : Nat, p < 4 → q < 4 → s = nI p → o = nI q → M 88 p = nI z1 → z1 ≤ 40 → M 88 q = nI z2 → z2 ≤ 40 → ¬ M 87 p = 0 → ¬ M 87 q = 0 → M 87 p = M 87 q → i = nI I → j = nI J → c = nI N → I + N ≤ z1 → J + N ≤ z2 → ∀ M1, St (fun b => b == 89 || b == 90) M M1 → (∀ k, k < N → M1 89 (40 * q + J + k) = M 89 (40 * p + I + k)) → (∀ k, (k < 40 * q + J ∨ 40 * q + J + N ≤ k) → M1 89 k = M 89 k) → K c M1)
    (hb : ¬ ((0 ≤ s.toInt ∧ s.toInt ≤ 3) ∧ 0 ≤ o.toInt ∧ o.toInt ≤ 3) → ∀ M1, PM (erI (-1000000001)) M M1 → K (-1000000001) M1)
    (hm : ∀ p q : Nat, p < 4 → q < 4 → s = nI p → o = nI q → (M 87 p = 0 ∨ M 87 q = 0) → ∀ M1, PM (erI (-1000000002)) M M1 → K (-1000000002) M1)
    (hu : ∀ p q : Nat, p < 4 → q < 4 → s = nI p → o = nI q → ¬ M 87 p = 0 → ¬ M 87 q = 0 → ¬ M 87 p = M 87 q → ∀ M1, PM (erI (-1000000005)) M M1 → K (-1000000005) M1)
    (hr : ∀ p q z1 z2 : Nat, p < 4 → q < 4 → s = nI p → o = nI q → M 88 p = nI z1 → z1 ≤ 40 → M 88 q = nI z2 → z2 ≤ 40 → ¬ M 87 p = 0 → ¬ M 87 q = 0 → M 87 p = M 87 q → ¬ MvG z1 z2 i j c → ∀ M1, PM (erI (-1000000001)) M M1 → K (-1000000001) M1) : wp_X8_move s i o j c M K := by
  unfold wp_X8_move
  refine s8 (fun p hp ep => b1a ?_) (fun g => b0a (e8 1 (by decide) (by decide) (hb (fun h => g h.1) _ (pm_e (by decide) (by decide)))))
  subst ep
  refine s8 (fun q hq eq => b1b ?_) (fun g => b0b (e8 1 (by decide) (by decide) (hb (fun h => g h.2) _ (pm_e (by decide) (by decide)))))
  subst eq
  have hvp : vp_in (nI p) 4 := vp_in_nI hp (by decide)
  have hvq : vp_in (nI q) 4 := vp_in_nI hq (by decide)
  rw [nI_clamp (by omega), nI_clamp (by omega)]
  refine ⟨hvp, fun m1 => e8 2 (by decide) (by decide) (hm p q hp hq rfl rfl (Or.inl m1) _ (pm_e (by decide) (by decide))), fun m1 => ⟨hvq, fun m2 => ⟨hvp, hvq, fun m3 => ?_, fun m3 => e8 5 (by decide) (by decide) (hu p q hp hq rfl rfl m1 m2 m3 _ (pm_e (by decide) (by decide)))⟩, fun m2 => e8 2 (by decide) (by decide) (hm p q hp hq rfl rfl (Or.inr m2) _ (pm_e (by decide) (by decide)))⟩⟩
  obtain ⟨z1, hz1, ez1⟩ := hS p hp
  obtain ⟨z2, hz2, ez2⟩ := hS q hq
  have hr := hr p q z1 z2 hp hq rfl rfl ez1 hz1 ez2 hz2 m1 m2 m3
  have he : ¬ MvG z1 z2 i j c → wp_X8_errs (-1000000001) M (fun r N => K r N) := fun g => e8 1 (by decide) (by decide) (hr g _ (pm_e (by decide) (by decide)))
  have z0 : (0 : Int32).toInt = 0 := by decide
  refine ⟨fun q1 => he (fun h => ?_), fun q1 => ⟨fun q2 => he (fun h => ?_), fun q2 => ⟨fun q3 => he (fun h => ?_), fun q3 => ?_⟩⟩⟩
  · have := ti_lt rfl z0 q1; have := h.1.2.1; omega
  · have := ti_lt rfl z0 q2; have := h.1.1; omega
  · have := ti_lt rfl z0 q3; have := h.2.1; omega
  have p1 := ti_nlt rfl z0 q1
  have p2 := ti_nlt rfl z0 q2
  have p3 := ti_nlt rfl z0 q3
  have hsub : ∀ z : Nat, z ≤ 40 → (nI z - c).toInt = (z : Int) - c.toInt := fun z hz => by
    rw [Int32.toInt_sub, nI_toInt (by omega)]
    have := Int32.toInt_lt c
    exact Int.bmod_eq_of_le (by omega) (by omega)
  rw [ez1, ez2]
  refine ⟨hvp, fun q4 => he (fun h => ?_), fun q4 => ⟨hvq, fun q5 => ?_, fun q5 => he (fun h => ?_)⟩⟩
  · have := ti_lt (hsub z1 hz1) rfl q4; have := h.1.2.2; omega
  · have p4 := ti_nlt (hsub z1 hz1) rfl q4
    have p5 := ti_le rfl (hsub z2 hz2) q5
    obtain ⟨I, hI, rfl⟩ := nat_of (x := i) 40 (by omega) (by omega) (by decide)
    obtain ⟨J, hJ, rfl⟩ := nat_of (x := j) 40 (by omega) (by omega) (by decide)
    obtain ⟨N, hN, rfl⟩ := nat_of (x := c) 40 (by omega) (by omega) (by decide)
    rw [nI_toInt (by omega), nI_toInt (by omega)] at p4 p5
    have ixx : ∀ x y k : Nat, (40 : Int32) * nI x + nI y + nI k = nI (40 * x + y + k) := fun x y k => by rw [ix40, nI_add]
    refine loopN (L := fun m i M' => wp_X8_move_L119 K (nI p) (nI I) (nI q) (nI J) (nI N) m i M') N (fun i M' => St (fun b => b == 90) M M' ∧ ∀ k, k < i → M' 90 k = M 89 (40 * p + I + k)) ?_ 0 (Nat.zero_le _) ⟨St.rf, fun k hk => by omega⟩
    intro k M' m hk hs ih
    obtain ⟨hs, hc⟩ := hs
    show wp_X8_move_l119 K (nI p) (nI I) (nI q) (nI J) (nI N) (wp_X8_move_L119 K (nI p) (nI I) (nI q) (nI J) (nI N) m) (nI k) M'
    unfold wp_X8_move_l119
    refine ⟨fun q6 => ?_, fun q6 => ?_⟩
    · have hkN : k = N := by have := le_of_nI q6 (by omega) (by omega); omega
      subst hkN
      refine loopN (L := fun m i M'' => wp_X8_move_L156 K (nI q) (nI J) (nI k) m i M'') k (fun i M'' => St (fun b => b == 89) M' M'' ∧ (∀ x, x < i → M'' 89 (40 * q + J + x) = M 89 (40 * p + I + x)) ∧ (∀ x, (x < 40 * q + J ∨ 40 * q + J + i ≤ x) → M'' 89 x = M 89 x)) ?_ 0 (Nat.zero_le _) ⟨St.rf, fun x hx => by omega, fun x _ => by rw [hs 89 rfl]⟩
      intro y M'' mj hy hs2 ih2
      obtain ⟨hs2, hc2, hc3⟩ := hs2
      show wp_X8_move_l156 K (nI q) (nI J) (nI k) (wp_X8_move_L156 K (nI q) (nI J) (nI k) mj) (nI y) M''
      unfold wp_X8_move_l156
      refine ⟨fun q7 => ?_, fun q7 => ?_⟩
      · have hyk : y = k := by have := le_of_nI q7 (by omega) (by omega); omega
        subst hyk
        exact hg p q z1 z2 I J y hp hq rfl rfl ez1 hz1 ez2 hz2 m1 m2 m3 rfl rfl rfl (by omega) (by omega) _ ((hs.w (by simp <;> omega)).tr (hs2.w (by simp <;> omega))) hc2 hc3
      · have hy2 : y < k := lt_of_nI q7 (by omega) (by omega)
        rw [ixx, nI_1, nI_clamp (by omega), nI_clamp (by omega)]
        refine ⟨vp_in_nI (by omega) (by decide), vp_in_nI (by omega) (by decide), ih2 _ hy2 ⟨hs2.up rfl, fun x hx => ?_, fun x hx => by rw [up_slot _ (by omega)]; exact hc3 x (by omega)⟩⟩
        by_cases e : x = y
        · subst e; rw [up_same, hs2 90 rfl]; exact hc x (by omega)
        · rw [up_slot _ (by omega)]; exact hc2 x (by omega)
    · have hk2 : k < N := lt_of_nI q6 (by omega) (by omega)
      rw [ixx, nI_1, nI_clamp (by omega), nI_clamp (by omega)]
      refine ⟨vp_in_nI (by omega) (by decide), vp_in_nI (by omega) (by decide), ih _ hk2 ⟨hs.up rfl, fun x hx => ?_⟩⟩
      by_cases e : x = k
      · subst e; rw [up_same, hs 89 rfl]
      · rw [up_slot _ e]; exact hc x (by omega)
  · have p5 := ti_nle rfl (hsub z2 hz2) q5
    have := h.2.2.2; omega
end E_m_moveS
section E_p_move2
variable {i : Nat} {M : Mem} {K : Int32 → Mem → Prop}
theorem pe_move2 {s a o c v : Int32} (hS : SHc M)
    (hg : ∀ p q z1 z2 I J N : Nat, p < 4 → q < 4 → s = nI p → o = nI q → M (70 + 2 * p) 2 = nI z1 → z1 ≤ 40 → M (70 + 2 * q) 2 = nI z2 → z2 ≤ 40 → a = nI I → c = nI J → v = nI N → I + N ≤ z1 → J + N ≤ z2 → mvG (fun p => M (70 + 2 * p) 1) (fun p => M (70 + 2 * p) 2) s a o c v → K v (upA M (71 + 2 * q) (va_cpy (M (71 + 2 * p)) (M (71 + 2 * q)) I J N)))
    (he : ¬ mvG (fun p => M (70 + 2 * p) 1) (fun p => M (70 + 2 * p) 2) s a o c v → ∀ M1, PC (erI (mvE (fun p => M (70 + 2 * p) 1) s o)) M M1 → K (mvE (fun p => M (70 + 2 * p) 1) s o) M1) : wp_X7_move s a o c v M K := by
  refine pe_move hS (fun p q z1 z2 I J N hp hq ep eq e1 l1 e2 l2 b1 b2 b3 eI eJ eN k1 k2 => hg p q z1 z2 I J N hp hq ep eq e1 l1 e2 l2 eI eJ eN k1 k2 ⟨p, q, z1, z2, hp, hq, ep, eq, b1, b2, b3, e1, e2, l1, l2, ?_⟩) (fun g M1 h1 => ?_) (fun p q hp hq ep eq g M1 h1 => ?_) (fun p q hp hq ep eq b1 b2 b3 M1 h1 => ?_) (fun p q z1 z2 hp hq ep eq e1 l1 e2 l2 b1 b2 b3 g M1 h1 => ?_)
  · unfold MvG
    rw [eI, eJ, eN, nI_toInt (by omega), nI_toInt (by omega), nI_toInt (by omega)]; omega
  · have e0 : mvE (fun p => M (70 + 2 * p) 1) s o = -1000000001 := mvE_b (fun ⟨p, q, hp, hq, ep, eq, _⟩ => g (mv_ok hp hq ep eq)) (fun ⟨p, q, hp, hq, ep, eq, _⟩ => g (mv_ok hp hq ep eq))
    have := he (fun ⟨p, q, _, _, hp, hq, ep, eq, _⟩ => g (mv_ok hp hq ep eq)) M1 (pc_r h1 e0.symm)
    rwa [e0] at this
  · have e0 : mvE (fun p => M (70 + 2 * p) 1) s o = -1000000002 := mvE_m ((mvM_at hp hq ep eq).mpr g)
    have := he (fun h => by obtain ⟨b1, b2, -⟩ := mvG_at hp hq ep eq h; rcases g with g | g; exact b1 g; exact b2 g) M1 (pc_r h1 e0.symm)
    rwa [e0] at this
  · have e0 : mvE (fun p => M (70 + 2 * p) 1) s o = -1000000005 := mvE_u (fun h => by rcases (mvM_at hp hq ep eq).mp h with h | h; exact b1 h; exact b2 h) ((mvU_at hp hq ep eq).mpr b3)
    have := he (fun h => b3 (mvG_at hp hq ep eq h).2.2.1) M1 (pc_r h1 e0.symm)
    rwa [e0] at this
  · have e0 : mvE (fun p => M (70 + 2 * p) 1) s o = -1000000001 := mvE_b (fun h => by rcases (mvM_at hp hq ep eq).mp h with h | h; exact b1 h; exact b2 h) (fun h => (mvU_at hp hq ep eq).mp h b3)
    have := he (fun h => by
      obtain ⟨_, _, _, y1, y2, m1, m2, f1, f2, h⟩ := mvG_at hp hq ep eq h
      have a1 := mv_inj (by omega) (by omega) e1 f1
      have a2 := mv_inj (by omega) (by omega) e2 f2
      subst a1; subst a2; exact g h) M1 (pc_r h1 e0.symm)
    rwa [e0] at this
end E_p_move2
section E_m_move2
variable {i : Nat} {M : Mem} {K : Int32 → Mem → Prop}
theorem me_move2 {s a o c v : Int32} (hS : SMc M)
    (hg : ∀ p q z1 z2 I J N : Nat, p < 4 → q < 4 → s = nI p → o = nI q → M 88 p = nI z1 → z1 ≤ 40 → M 88 q = nI z2 → z2 ≤ 40 → a = nI I → c = nI J → v = nI N → I + N ≤ z1 → J + N ≤ z2 → mvG (M 87) (M 88) s a o c v → ∀ M1, St (fun b => b == 89 || b == 90) M M1 → (∀ k, k < N → M1 89 (40 * q + J + k) = M 89 (40 * p + I + k)) → (∀ k, (k < 40 * q + J ∨ 40 * q + J + N ≤ k) → M1 89 k = M 89 k) → K v M1)
    (he : ¬ mvG (M 87) (M 88) s a o c v → ∀ M1, PM (erI (mvE (M 87) s o)) M M1 → K (mvE (M 87) s o) M1) : wp_X8_move s a o c v M K := by
  refine me_moveS hS (fun p q z1 z2 I J N hp hq ep eq e1 l1 e2 l2 b1 b2 b3 eI eJ eN k1 k2 => hg p q z1 z2 I J N hp hq ep eq e1 l1 e2 l2 eI eJ eN k1 k2 ⟨p, q, z1, z2, hp, hq, ep, eq, b1, b2, b3, e1, e2, l1, l2, ?_⟩) (fun g M1 h1 => ?_) (fun p q hp hq ep eq g M1 h1 => ?_) (fun p q hp hq ep eq b1 b2 b3 M1 h1 => ?_) (fun p q z1 z2 hp hq ep eq e1 l1 e2 l2 b1 b2 b3 g M1 h1 => ?_)
  · unfold MvG
    rw [eI, eJ, eN, nI_toInt (by omega), nI_toInt (by omega), nI_toInt (by omega)]; omega
  · have e0 : mvE (M 87) s o = -1000000001 := mvE_b (fun ⟨p, q, hp, hq, ep, eq, _⟩ => g (mv_ok hp hq ep eq)) (fun ⟨p, q, hp, hq, ep, eq, _⟩ => g (mv_ok hp hq ep eq))
    have := he (fun ⟨p, q, _, _, hp, hq, ep, eq, _⟩ => g (mv_ok hp hq ep eq)) M1 (pm_r h1 e0.symm)
    rwa [e0] at this
  · have e0 : mvE (M 87) s o = -1000000002 := mvE_m ((mvM_at hp hq ep eq).mpr g)
    have := he (fun h => by obtain ⟨b1, b2, -⟩ := mvG_at hp hq ep eq h; rcases g with g | g; exact b1 g; exact b2 g) M1 (pm_r h1 e0.symm)
    rwa [e0] at this
  · have e0 : mvE (M 87) s o = -1000000005 := mvE_u (fun h => by rcases (mvM_at hp hq ep eq).mp h with h | h; exact b1 h; exact b2 h) ((mvU_at hp hq ep eq).mpr b3)
    have := he (fun h => b3 (mvG_at hp hq ep eq h).2.2.1) M1 (pm_r h1 e0.symm)
    rwa [e0] at this
  · have e0 : mvE (M 87) s o = -1000000001 := mvE_b (fun h => by rcases (mvM_at hp hq ep eq).mp h with h | h; exact b1 h; exact b2 h) (fun h => (mvU_at hp hq ep eq).mp h b3)
    have := he (fun h => by
      obtain ⟨_, _, _, y1, y2, m1, m2, f1, f2, h⟩ := mvG_at hp hq ep eq h
      have a1 := mv_inj (by omega) (by omega) e1 f1
      have a2 := mv_inj (by omega) (by omega) e2 f2
      subst a1; subst a2; exact g h) M1 (pm_r h1 e0.symm)
    rwa [e0] at this
end E_m_move2
section E_p_voice
theorem pe_voice {n : Nat} {M : Mem} {K : Int32 → Mem → Prop} {a b x : Int32} (hC : CN n M) (hK : ∀ q : Nat, q < n → KindOK (M (14 + q) 0))
    (hg : ∀ j k c : Nat, j < n → a = nI j → k ≤ 6 → M (14 + j) 0 = nI k → c ≤ 3 → b = nI c → ∀ M1, VT k (nI j) (M (14 + j) 1) (vL k c) M M1 → K (vR (nI j) (M (14 + j) 1) k c x) M1)
    (hb : ¬ ((0 ≤ a.toInt ∧ a.toInt < n) ∧ 0 ≤ b.toInt ∧ b.toInt ≤ 3) → ∀ M1, PC (erI (-1000000001)) M M1 → K (-1000000001) M1) : wp_X7_voice a b x M K := by
  have hn := hC.1
  unfold wp_X7_voice
  refine q7z hC.1 hC.2.1 (fun j hj ej => ?_) (fun g => e7 1 (by decide) (by decide) (hb (fun h => g h.1) _ (pc_e (by decide) (by decide))))
  subst ej
  refine w7n 0 3 (by decide) (by decide) (fun g1 g2 => ?_) (fun g => e7 1 (by decide) (by decide) (hb (fun h => g h.2) _ (pc_e (by decide) (by decide))))
  obtain ⟨c, hc, rfl⟩ := nat_of (x := b) 3 g1 g2 (by decide)
  obtain ⟨k, hk, ek⟩ := hK j hj
  have hg := hg j k c hj rfl hk ek hc rfl
  rw [nI_clamp (by omega)]
  refine ⟨vp_in_nI (by omega) (by decide), ?_⟩
  unfold wp_X5_beginWith wp_X5_say
  have hv : VT k (nI j) (M (14 + j) 1) [] M (up (up (up (up M 67 1 0) 67 2 (M (14 + j) 0)) 67 3 (nI j)) 67 4 (M (14 + j) 1)) := ⟨(((St.rf.up rfl).up rfl).up rfl).up rfl, by simp [up]; rfl, by simp [up, ek], by simp [up], by simp [up], fun k hk => by simp at hk⟩
  have e2 : (up (up (up (up M 67 1 0) 67 2 (M (14 + j) 0)) 67 3 (nI j)) 67 4 (M (14 + j) 1)) 67 2 = nI k := hv.2.2.1
  dsimp only
  rw [e2]
  generalize (up (up (up (up M 67 1 0) 67 2 (M (14 + j) 0)) 67 3 (nI j)) 67 4 (M (14 + j) 1)) = M' at hv e2 ⊢
  refine pk_eq c 0 (fun e => ?_) (fun e0 => pk_eq c 1 (fun e => ?_) (fun e1 => pk_eq c 2 (fun e => ?_) (fun e2 => ?_)))
  · subst e; exact v_g hk hv (by simp) (fun M1 h1 => hg M1 (by simpa [vL] using h1))
  · subst e; exact v_c hk hk hv (by simp) (fun M1 h1 => hg M1 (by simpa [vL] using h1))
  · subst e; exact v_s hk hv (by simp) (fun M1 h1 => hg M1 (by simpa [vL] using h1))
  · refine v_t hk hk hv (by simp) (fun M1 h1 => ?_)
    have := hg M1 (by rw [vL, if_neg e0, if_neg e1, if_neg e2]; simpa using h1)
    rw [vR, if_neg e0, if_neg e1, if_neg e2] at this; exact this
end E_p_voice
section E_m_voice
theorem me_voice {n : Nat} {M : Mem} {K : Int32 → Mem → Prop} {a b x : Int32} (hR : RO n (M 80)) (hK : ∀ q : Nat, q < n → KindOK (M 80 (11 + 7 * q)))
    (hg : ∀ j k c : Nat, j < n → a = nI j → k ≤ 6 → M 80 (11 + 7 * j) = nI k → c ≤ 3 → b = nI c → ∀ M1, VM k (nI j) (M 80 (12 + 7 * j)) (vL k c) M M1 → K (vR (nI j) (M 80 (12 + 7 * j)) k c x) M1)
    (hb : ¬ ((0 ≤ a.toInt ∧ a.toInt < n) ∧ 0 ≤ b.toInt ∧ b.toInt ≤ 3) → ∀ M1, PM (erI (-1000000001)) M M1 → K (-1000000001) M1) : wp_X8_voice a b x M K := by
  have hn := hR.1
  unfold wp_X8_voice
  refine q8z hR.1 hR.2.1 (fun j hj ej => ?_) (fun g => e8 1 (by decide) (by decide) (hb (fun h => g h.1) _ (pm_e (by decide) (by decide))))
  subst ej
  refine w8n 0 3 (by decide) (by decide) (fun g1 g2 => ?_) (fun g => e8 1 (by decide) (by decide) (hb (fun h => g h.2) _ (pm_e (by decide) (by decide))))
  obtain ⟨c, hc, rfl⟩ := nat_of (x := b) 3 g1 g2 (by decide)
  obtain ⟨k, hk, ek⟩ := hK j hj
  have hg := hg j k c hj rfl hk ek hc rfl
  refine m_its 0 (by omega) (m_its 1 (by omega) ?_)
  have e0 : (up M 79 20 0) 80 (11 + 7 * j + 0) = nI k := by rw [up_cell (by decide)]; exact ek
  have e1 : (up (up (up M 79 20 0) 79 21 (nI k)) 79 22 (nI j)) 80 (11 + 7 * j + 1) = M 80 (12 + 7 * j) := by rw [up_cell (by decide), up_cell (by decide), up_cell (by decide), show 11 + 7 * j + 1 = 12 + 7 * j by omega]
  rw [e0, e1]
  have hv : VM k (nI j) (M 80 (12 + 7 * j)) [] M (up (up (up (up M 79 20 0) 79 21 (nI k)) 79 22 (nI j)) 79 23 (M 80 (12 + 7 * j))) := ⟨(((St.rf.up rfl).up rfl).up rfl).up rfl, by simp [up]; rfl, by simp [up], by simp [up], by simp [up], fun k hk => by simp at hk, by simp [up], by simp [up]⟩
  have e2 : (up (up (up (up M 79 20 0) 79 21 (nI k)) 79 22 (nI j)) 79 23 (M 80 (12 + 7 * j))) 79 21 = nI k := hv.2.2.1
  rw [e2]
  generalize (up (up (up (up M 79 20 0) 79 21 (nI k)) 79 22 (nI j)) 79 23 (M 80 (12 + 7 * j))) = M' at hv e2 ⊢
  refine pk_eq c 0 (fun e => ?_) (fun e0 => pk_eq c 1 (fun e => ?_) (fun e1 => pk_eq c 2 (fun e => ?_) (fun e2 => ?_)))
  · subst e; exact y_g hk hv (by simp) (fun M1 h1 => hg M1 (by simpa [vL] using h1))
  · subst e; exact y_c hk hk hv (by simp) (fun M1 h1 => hg M1 (by simpa [vL] using h1))
  · subst e; exact y_s hk hv (by simp) (fun M1 h1 => hg M1 (by simpa [vL] using h1))
  · refine y_t hk hk hv (by simp) (fun M1 h1 => ?_)
    have := hg M1 (by rw [vL, if_neg e0, if_neg e1, if_neg e2]; simpa using h1)
    rw [vR, if_neg e0, if_neg e1, if_neg e2] at this; exact this
end E_m_voice
section E_x_edges
variable {i n : Nat} {M : Mem} {K : Int32 → Mem → Prop}
theorem xe_edges {a : Int32} {h : Nat → Int32} {V : Nat → Nat} (hG : RG 12 n h V M) (hV : RV n V) (hS : SHc M) (hg : ∀ j z : Nat, j < 4 → a = nI j → M (70 + 2 * j) 2 = nI z → z ≤ 40 → ¬ M (70 + 2 * j) 1 = 0 → ∀ M1, St (fun c => decide (14 ≤ c) && decide (c ≤ 22)) M M1 → RG 12 n h (edV (M (71 + 2 * j)) (edgeN (M (71 + 2 * j)) (min n z)) V) M1 → RV n (edV (M (71 + 2 * j)) (edgeN (M (71 + 2 * j)) (min n z)) V) → edV (M (71 + 2 * j)) (edgeN (M (71 + 2 * j)) (min n z)) V 9 = V 9 → edV (M (71 + 2 * j)) (edgeN (M (71 + 2 * j)) (min n z)) V 0 = V 0 → K (nI (edgeN (M (71 + 2 * j)) (min n z))) M1)
    (hb : ¬ (0 ≤ a.toInt ∧ a.toInt ≤ 3) → ∀ M1, PC (erI (-1000000001)) M M1 → K (-1000000001) M1) (hm : ∀ j : Nat, j < 4 → a = nI j → M (70 + 2 * j) 1 = 0 → ∀ M1, PC (erI (-1000000002)) M M1 → K (-1000000002) M1) : wp_X7_edges a M K := by
  have hn := hV.1
  unfold wp_X7_edges
  refine s7 (fun j hj ej => b1b ?_) (fun g => b0b (e7 1 (by decide) (by decide) (hb g _ (pc_e (by decide) (by decide)))))
  subst ej
  rw [nI_clamp (by omega)]
  refine ⟨vp_in_nI hj (by decide), ?_⟩
  unfold wp_X3_isMissing
  refine ⟨fun q => b0a ?_, fun q => b1a (e7 2 (by decide) (by decide) (hm j hj rfl q _ (pc_e (by decide) (by decide))))⟩
  obtain ⟨z, hz, ez⟩ := hS j hj
  rw [ez, hG.1, min_nI (by omega) (by omega)]
  rintro _ rfl
  refine loopN (L := fun k i M' => wp_X7_edges_L56 K (70 + 2 * j) (nI (min n z)) k i M') (min n z) (fun i M' => St (fun c => decide (14 ≤ c) && decide (c ≤ 22)) M M' ∧ RG 12 n h (edV (M (71 + 2 * j)) i V) M' ∧ RV n (edV (M (71 + 2 * j)) i V) ∧ edV (M (71 + 2 * j)) i V 9 = V 9 ∧ edV (M (71 + 2 * j)) i V 0 = V 0 ∧ edgeN (M (71 + 2 * j)) i = i) ?_ 0 (Nat.zero_le _) ⟨St.rf, hG, hV, rfl, rfl, rfl⟩
  intro i M' k hi hs ih
  obtain ⟨hs, hr, hv, h9, h0, he⟩ := hs
  show wp_X7_edges_l56 K (70 + 2 * j) (nI (min n z)) (wp_X7_edges_L56 K (70 + 2 * j) (nI (min n z)) k) (nI i) M'
  unfold wp_X7_edges_l56
  have er : M' (71 + 2 * j) = M (71 + 2 * j) := hs _ (by simp; omega)
  rw [rf_sh hj, ln_sh hj, er]
  have fin : edgeN (M (71 + 2 * j)) (min n z) = i → K (nI i) M' := fun e => by
    have := hg j z hj rfl ez hz q M' hs
    rw [e] at this; exact this hr hv h9 h0
  refine ⟨fun q2 => ?_, fun q2 => ?_⟩
  · have : i = min n z := by have := le_of_nI q2 (by omega) (by omega); omega
    have f2 := fin (by rw [← this]; exact he)
    rw [this] at f2; exact f2
  · have hi2 : i < min n z := lt_of_nI q2 (by omega) (by omega)
    have hv2 : vp_in (nI i) 40 := vp_in_nI (by omega) (by decide)
    refine ⟨hv2, ?_⟩
    rw [nI_clamp (by omega)]
    refine w7n 0 99 (by decide) (by decide) (fun g1 g2 => ⟨vp_in_nI (by omega) (by decide), hv2, ?_⟩) (fun g => fin (edgeN_stop he g _ (by omega)))
    obtain ⟨x, hx, ex⟩ := nat_of 99 g1 g2 (by decide)
    rw [er, nI_1, ex]
    have hcl : (M (71 + 2 * j) i).toNatClampNeg = x := by rw [ex, nI_clamp (by omega)]
    have hput : RG 12 n h (edV (M (71 + 2 * j)) (i + 1) V) (up M' (14 + i) 3 (nI x)) := by
      show RG 12 n h (adf (edV (M (71 + 2 * j)) i V) (14 + 7 * i) (M (71 + 2 * j) i).toNatClampNeg) _
      rw [hcl]; exact hr.putA (s := 14) (by omega) hn (by unfold FS; omega)
    refine ih _ hi2 ⟨hs.up (by simp; omega), hput, ?_, ?_, ?_, ?_⟩
    · show RV n (adf (edV (M (71 + 2 * j)) i V) (14 + 7 * i) (M (71 + 2 * j) i).toNatClampNeg)
      rw [hcl]; exact hv.putA (s := 14) (by omega) (by omega) (by omega)
    · show adf (edV (M (71 + 2 * j)) i V) (14 + 7 * i) _ 9 = V 9
      rw [adf_o (by omega)]; exact h9
    · show adf (edV (M (71 + 2 * j)) i V) (14 + 7 * i) _ 0 = V 0
      rw [adf_o (by omega)]; exact h0
    · unfold edgeN
      rw [if_pos ⟨he, g1, g2⟩]
end E_x_edges
section E_y_edges
variable {i n : Nat} {M : Mem} {K : Int32 → Mem → Prop}
theorem ye_edges {a : Int32} {h : Nat → Int32} {V : Nat → Nat} (hR : RR n h V (M 80)) (hn : n ≤ 9) (hS : SMc M) (hg : ∀ j z : Nat, j < 4 → a = nI j → M 88 j = nI z → z ≤ 40 → ¬ M 87 j = 0 → ∀ M1, St (fun c => c == 80) M M1 → (∀ k, (k < 11 ∨ 74 ≤ k) → M1 80 k = M 80 k) → RR n h (edV (fun k => M 89 (40 * j + k)) (edgeN (fun k => M 89 (40 * j + k)) (min n z)) V) (M1 80) → K (nI (edgeN (fun k => M 89 (40 * j + k)) (min n z))) M1)
    (hb : ¬ (0 ≤ a.toInt ∧ a.toInt ≤ 3) → ∀ M1, PM (erI (-1000000001)) M M1 → K (-1000000001) M1) (hm : ∀ j : Nat, j < 4 → a = nI j → M 87 j = 0 → ∀ M1, PM (erI (-1000000002)) M M1 → K (-1000000002) M1) : wp_X8_edges a M K := by
  unfold wp_X8_edges
  refine s8 (fun j hj ej => b1b ?_) (fun g => b0b (e8 1 (by decide) (by decide) (hb g _ (pm_e (by decide) (by decide)))))
  subst ej
  have hv : vp_in (nI j) 4 := vp_in_nI hj (by decide)
  rw [nI_clamp (by omega)]
  refine ⟨hv, fun q => ?_, fun q => e8 2 (by decide) (by decide) (hm j hj rfl q _ (pm_e (by decide) (by decide)))⟩
  obtain ⟨z, hz, ez⟩ := hS j hj
  refine loopN (L := fun m i M' => wp_X8_edges_L32 K (nI j) m i M') (min n z) (fun i M' => St (fun c => c == 80) M M' ∧ (∀ k, (k < 11 ∨ 74 ≤ k) → M' 80 k = M 80 k) ∧ RR n h (edV (fun k => M 89 (40 * j + k)) i V) (M' 80) ∧ edgeN (fun k => M 89 (40 * j + k)) i = i) ?_ 0 (Nat.zero_le _) ⟨St.rf, fun _ _ => rfl, hR, rfl⟩
  intro i M' m hi hs ih
  obtain ⟨hs, hl, hr, he⟩ := hs
  show wp_X8_edges_l32 K (nI j) (wp_X8_edges_L32 K (nI j) m) (nI i) M'
  unfold wp_X8_edges_l32
  have e88 : M' 88 = M 88 := hs 88 rfl
  have e89 : M' 89 = M 89 := hs 89 rfl
  rw [nI_clamp (by omega), e88, ez]
  have fin : edgeN (fun k => M 89 (40 * j + k)) (min n z) = i → K (nI i) M' := fun e => by
    have := hg j z hj rfl ez hz q M' hs hl
    rw [e] at this; exact this hr
  refine ⟨hv, fun q2 => ?_, fun q2 => ?_⟩
  · have hzi := le_of_nI q2 (by omega) (by omega)
    refine fin ?_
    have : min n z = i := by omega
    rw [this]; exact he
  · have hiz : i < z := lt_of_nI q2 (by omega) (by omega)
    refine q8z hn hr.1 (fun i' hi' ei => ?_) (fun g => fin ?_)
    · have : i' = i := ((nI_eq (by omega) (by omega)).mp ei).symm
      subst this
      have hv2 : vp_in (nI (40 * j + i')) 160 := vp_in_nI (by omega) (by decide)
      rw [ix40, nI_clamp (by omega), nI_1]
      refine ⟨hv2, ?_⟩
      rw [e89]
      refine w8z 0 99 (by decide) (by decide) (fun g1 g2 => ⟨hv2, ?_⟩) (fun g => fin (edgeN_stop he g _ (by omega)))
      obtain ⟨x, hx, ex⟩ := nat_of 99 g1 g2 (by decide)
      rw [e89, ex]
      have hcl : (M 89 (40 * j + i')).toNatClampNeg = x := by rw [ex, nI_clamp (by omega)]
      refine i_gets 3 (14 + 7 * i') x hn hr hi' (by omega) (fun hr2 => ih _ (by omega) ⟨hs.up rfl, fun k hk => ?_, ?_, ?_⟩)
      · rw [up_slot _ (by omega)]; exact hl k hk
      · show RR n h (adf (edV (fun k => M 89 (40 * j + k)) i' V) (14 + 7 * i') (M 89 (40 * j + i')).toNatClampNeg) _
        rw [hcl]; exact hr2
      · unfold edgeN
        rw [if_pos ⟨he, g1, g2⟩]
    · have : min n z = i := by
        rw [nI_toInt (by omega)] at g; omega
      rw [this]; exact he
end E_y_edges
