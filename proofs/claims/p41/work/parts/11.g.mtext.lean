theorem TO.same {f f1 : Nat → Int32} {w : Nat} (h : TO f w) (h5 : f1 (5 + w) = f (5 + w)) (hr : ∀ j, j < 50 → f1 (144 + 50 * w + j) = f (144 + 50 * w + j)) : TO f1 w := by
  unfold TO
  rw [h5]
  rcases h with e | ⟨z, hz, e, g, g0, hg⟩
  · exact Or.inl e
  · refine Or.inr ⟨z, hz, e, g, g0, fun k hk => ?_⟩
    show SOK (f1 (144 + 50 * w + k)) _ _
    rw [hr k (by omega)]; exact hg k hk
theorem NM.row {n d : Nat} {b t z : Int32} {M M1 M2 : Mem} (h : NM n d b t z M M1) (hs : St (fun b => b == 79 || b == 80 || b == 84) M1 M2) (hr : ∀ k, k < 144 → k ≠ 5 → k ≠ 6 → M2 80 k = M1 80 k) (h0 : TO (M2 80) 0) (h1 : TO (M2 80) 1) (e3 : M2 79 3 = M1 79 3) (e4 : M2 79 4 = M1 79 4) (e20 : M2 79 20 = M1 79 20) : NM n d b t z M M2 := by
  obtain ⟨g1, g2, g3, g4, g5, g6, g7, g8, g9, g10⟩ := h
  have hn := g2.1
  refine ⟨g1.tr (hs.w (by simp <;> omega)), ⟨hn, by rw [hr 2 (by omega) (by omega) (by omega)]; exact g2.2.1, fun q hq => by rw [hr _ (by omega) (by omega) (by omega)]; exact g2.2.2.1 q hq, h0, h1⟩, by rw [hr 0 (by omega) (by omega) (by omega)]; exact g3, by rw [hr 3 (by omega) (by omega) (by omega)]; exact g4, by rw [hr 4 (by omega) (by omega) (by omega)]; exact g5, by rw [hr 1 (by omega) (by omega) (by omega)]; exact g6, fun q hq => ?_, e3.trans g8, e4.trans g9, e20.trans g10⟩
  rw [hr _ (by omega) (by omega) (by omega), hr _ (by omega) (by omega) (by omega), hr _ (by omega) (by omega) (by omega)]
  exact g7 q hq
theorem m_text {n : Nat} {M : Mem} {K : Int32 → Mem → Prop} {a : Int32} {b : Nat} (hb : b ≤ 50) (hR : RO n (M 80)) (hw : M 80 3 = nI b) (hg : 0 ≤ a.toInt → a.toInt ≤ 1 → ∀ r M1, NM n 0 0 (M 80 4) (M 80 1) M M1 → K r M1) (hk : ¬ (0 ≤ a.toInt ∧ a.toInt ≤ 1) → ∀ r M1, St SMx M M1 → K r M1) : wp_X8_text a M K := by
  unfold wp_X8_text
  refine w8n 0 1 (by decide) (by decide) (fun g1 g2 => ?_) (fun g => e8b St.rf (hk g))
  obtain ⟨w, hw1, rfl⟩ := nat_of (x := a) 1 g1 g2 (by decide)
  have hg := hg g1 g2
  have e8 : (up (up M 79 6 (nI w)) 79 7 0) 80 3 = nI b := by rw [up_cell (by decide), up_cell (by decide)]; exact hw
  rw [e8]
  have hPG : PG b 0 0 0 0 (up (up (up (up (up (up M 79 6 (nI w)) 79 7 0) 79 8 (nI b)) 79 9 0) 79 10 0) 79 11 1) (up (up (up (up (up (up M 79 6 (nI w)) 79 7 0) 79 8 (nI b)) 79 9 0) 79 10 0) 79 11 1) := by
    refine ⟨⟨St.rf, fun _ _ _ _ _ => rfl⟩, by simp [up], hb, by simp [up]; rfl, by omega, by simp [up]; rfl, by omega, by simp [up]; rfl, by omega, by simp [up], fun _ => 0, rfl, rfl, fun k hk => by omega⟩
  have hMs : NM n 0 (M 80 3) (M 80 4) (M 80 1) M (up (up (up (up (up (up M 79 6 (nI w)) 79 7 0) 79 8 (nI b)) 79 9 0) 79 10 0) 79 11 1) := by
    refine (NM.of hR).row ((((((St.rf.up rfl).up rfl).up rfl).up rfl).up rfl).up rfl) (fun k _ _ _ => by simp [up]) ?_ ?_ (by simp [up]) (by simp [up]) (by simp [up])
    · exact hR.2.2.2.1.same (by simp [up]) (fun j _ => by simp [up])
    · exact hR.2.2.2.2.same (by simp [up]) (fun j _ => by simp [up])
  generalize (up (up (up (up (up (up M 79 6 (nI w)) 79 7 0) 79 8 (nI b)) 79 9 0) 79 10 0) 79 11 1) = Ms at hPG hMs
  refine (y_group 64).2.2.2.2.2 0 (by omega) (by omega) hPG (fun M3 h3 => ?_)
  -- a memory behind the reading, with 'good' set and the tape empty
  have hP : ∀ x, PLt Ms M3 → NM n 0 0 (M 80 4) (M 80 1) M (up (up M3 79 11 x) 80 3 0) := by
    intro x hp
    have e80 : (up M3 79 11 x) 80 = Ms 80 := by rw [up_o _ (by decide)]; exact hp.1 80 rfl
    have hsl : ∀ k, k ≠ 7 → k ≠ 9 → k ≠ 10 → k ≠ 11 → (up M3 79 11 x) 79 k = Ms 79 k := fun k k1 k2 k3 k4 => by rw [up_slot _ k4]; exact hp.2 k k1 k2 k3 k4
    have h5 : NM n 0 (M 80 3) (M 80 4) (M 80 1) M (up M3 79 11 x) := hMs.row ((hp.1.w (by simp <;> omega)).up rfl) (fun k _ _ _ => by rw [e80]) (by rw [e80]; exact hMs.2.1.2.2.2.1) (by rw [e80]; exact hMs.2.1.2.2.2.2) (hsl _ (by decide) (by decide) (by decide) (by decide)) (hsl _ (by decide) (by decide) (by decide) (by decide)) (hsl _ (by decide) (by decide) (by decide) (by decide))
    exact h5.num (k := 3) (by omega)
  have e11 : ∀ x, (up (up M3 79 11 x) 80 3 0) 79 11 = x := fun x => by rw [up_cell (by decide), up_same]
  have bad : PLt Ms M3 → (¬ (up (up M3 79 11 0) 80 3 0) 79 11 = 0 → vp_in (5 + nI w) 244 ∧ (∃ m, wp_X8_text_L118 K (nI w) m 0 (up (up (up M3 79 11 0) 80 3 0) 80 (5 + nI w).toNatClampNeg ((up (up M3 79 11 0) 80 3 0) 79 10)))) ∧ ((up (up M3 79 11 0) 80 3 0) 79 11 = 0 → K ((-10) - ((up (up M3 79 11 0) 80 3 0) 79 7)) (up (up M3 79 11 0) 80 3 0)) := fun hp =>
    ⟨fun q => absurd (e11 0) q, fun _ => hg _ _ (hP 0 hp)⟩
  refine qf_0 h3 (fun _ hp => bad hp) (fun a' s' h4 _ _ => ⟨fun _ => bad h4.1, fun hae => ⟨fun _ => ?_, fun q => absurd ((e11 1).symm.trans q) (by decide)⟩⟩)
  obtain ⟨hp, p2, p3, p4, p5, p6, p7, p8, p9, p10, g, g0, gs, hgk⟩ := h4
  have h6 := hP 1 hp
  have e5 : (5 : Int32) + nI w = nI (5 + w) := by rw [show (5 : Int32) = nI 5 from rfl, nI_add]
  have e10 : (up (up M3 79 11 1) 80 3 0) 79 10 = nI s' := by rw [up_cell (by decide), up_slot _ (by decide)]; exact p6
  have e84 : (up (up M3 79 11 1) 80 3 0) 84 = M3 84 := by rw [up_o _ (by decide), up_o _ (by decide)]
  rw [e5, nI_clamp (by omega), e10]
  refine ⟨vp_in_nI (by omega) (by decide), ?_⟩
  generalize (up (up M3 79 11 1) 80 3 0) = M4 at h6 e10 e84
  refine loopN (L := fun m i M' => wp_X8_text_L118 K (nI w) m i M') s' (fun i M' => St (fun b => b == 80) M4 M' ∧ (∀ k, k ≠ 5 + w → (k < 144 + 50 * w ∨ 144 + 50 * w + 50 ≤ k) → M' 80 k = M4 80 k) ∧ M' 80 (5 + w) = nI s' ∧ ∀ j, j < i → M' 80 (144 + 50 * w + j) = M3 84 j) ?_ 0 (Nat.zero_le _) ⟨St.rf.up rfl, fun k hk _ => up_slot _ hk, up_same, fun j hj => by omega⟩
  intro i M' m hi hs ih
  obtain ⟨s1, s2, s3, s4⟩ := hs
  show wp_X8_text_l118 K (nI w) (wp_X8_text_L118 K (nI w) m) (nI i) M'
  unfold wp_X8_text_l118
  have eM10 : M' 79 10 = nI s' := by rw [s1 79 rfl]; exact e10
  have ix : (144 : Int32) + 50 * nI w + nI i = nI (144 + 50 * w + i) := by rw [show (144 : Int32) = nI 144 from rfl, show (50 : Int32) = nI 50 from rfl, pk_mul, nI_add, nI_add]
  rw [eM10, ix, nI_1]
  refine ⟨fun q => ?_, fun q => ?_⟩
  · have his : i = s' := by have := le_of_nI q (by omega) (by omega); omega
    subst his
    have hnew : TO (M' 80) w := Or.inr ⟨i, by omega, s3, g, g0, fun k hk => by
      show SOK (M' 80 (144 + 50 * w + k)) _ _
      rw [s4 k hk]; exact hgk k hk⟩
    refine hg _ _ (h6.row (s1.w (by simp <;> omega)) (fun k k1 k2 k3 => s2 k (by omega) (by omega)) ?_ ?_ (by rw [s1 79 rfl]) (by rw [s1 79 rfl]) (by rw [s1 79 rfl]))
    · rcases (by omega : w = 0 ∨ w = 1) with rfl | rfl
      · exact hnew
      · exact h6.2.1.2.2.2.1.same (s2 _ (by omega) (by omega)) (fun j hj => s2 _ (by omega) (by omega))
    · rcases (by omega : w = 0 ∨ w = 1) with rfl | rfl
      · exact h6.2.1.2.2.2.2.same (s2 _ (by omega) (by omega)) (fun j hj => s2 _ (by omega) (by omega))
      · exact hnew
  · have hi2 : i < s' := lt_of_nI q (by omega) (by omega)
    rw [nI_clamp (by omega), nI_clamp (by omega), s1 84 rfl, e84]
    refine ⟨vp_in_nI (by omega) (by decide), vp_in_nI (by omega) (by decide), ih _ hi2 ⟨s1.up rfl, fun k k1 k2 => by rw [up_slot _ (by omega)]; exact s2 k k1 k2, by rw [up_slot _ (by omega)]; exact s3, fun j hj => ?_⟩⟩
    by_cases e : j = i
    · subst e; exact up_same
    · rw [up_slot _ (by omega)]; exact s4 j (by omega)
