abbrev SER (g b : Nat) : Bool := b == 11 || b == g || (decide (g + 2 ≤ b) && decide (b ≤ g + 10))
/-- a field of a one changed -/
theorem RG.put {g n i : Nat} {h : Nat → Int32} {W : Nat → Nat} {M : Mem} {k s x : Nat} (hR : RG g n h W M) (hi : i < n) (hn : n ≤ 9) (hks : (k = 3 ∧ s = 14) ∨ (k = 6 ∧ s = 16) ∨ (k = 5 ∧ s = 17)) : RG g n h (adf W (s + 7 * i) x) (up M (g + 2 + i) k (nI x)) := by
  obtain ⟨r1, r2, r3, r4, r5, r6⟩ := hR
  refine ⟨by rw [up_cell (by omega)]; exact r1, by rw [up_cell (by omega), adf_o (by omega)]; exact r2, by rw [up_cell (by omega), adf_o (by omega)]; exact r3, by rw [up_cell (by omega), adf_o (by omega)]; exact r4, by rw [up_cell (by omega), adf_o (by omega)]; exact r5, fun r hr => ?_⟩
  obtain ⟨p1, p2, p3, p4, p5, p6, p7⟩ := r6 r hr
  by_cases e : r = i
  · subst e
    refine ⟨by rw [up_slot _ (by omega), adf_o (by omega)]; exact p1, by rw [up_slot _ (by omega), adf_o (by omega)]; exact p2, by rw [up_slot _ (by omega), adf_o (by omega)]; exact p3, ?_, by rw [up_slot _ (by omega)]; exact p5, ?_, ?_⟩
    · rcases hks with ⟨rfl, rfl⟩ | ⟨rfl, rfl⟩ | ⟨rfl, rfl⟩
      · rw [up_same, adf_s]
      · rw [up_slot _ (by omega), adf_o (by omega)]; exact p4
      · rw [up_slot _ (by omega), adf_o (by omega)]; exact p4
    · rcases hks with ⟨rfl, rfl⟩ | ⟨rfl, rfl⟩ | ⟨rfl, rfl⟩
      · rw [up_slot _ (by omega), adf_o (by omega)]; exact p6
      · rw [up_same, adf_s]
      · rw [up_slot _ (by omega), adf_o (by omega)]; exact p6
    · rcases hks with ⟨rfl, rfl⟩ | ⟨rfl, rfl⟩ | ⟨rfl, rfl⟩
      · rw [up_slot _ (by omega), adf_o (by omega)]; exact p7
      · rw [up_slot _ (by omega), adf_o (by omega)]; exact p7
      · rw [up_same, adf_s]
  · have hc : ∀ j, up M (g + 2 + i) k (nI x) (g + 2 + r) j = M (g + 2 + r) j := fun j => up_cell (by omega)
    have ha : ∀ j, 11 ≤ j → j ≤ 17 → adf W (s + 7 * i) x (j + 7 * r) = W (j + 7 * r) := fun j j1 j2 => adf_o (by omega)
    refine ⟨by rw [hc, ha 11 (by omega) (by omega)]; exact p1, by rw [hc, ha 12 (by omega) (by omega)]; exact p2, by rw [hc, ha 13 (by omega) (by omega)]; exact p3, by rw [hc, ha 14 (by omega) (by omega)]; exact p4, by rw [hc]; exact p5, by rw [hc, ha 16 (by omega) (by omega)]; exact p6, by rw [hc, ha 17 (by omega) (by omega)]; exact p7⟩
/-- harm alone changed -/
theorem RG.harm {g n : Nat} {h : Nat → Int32} {W : Nat → Nat} {M : Mem} {x : Nat} {y : Int32} (hR : RG g n h W M) (hn : n ≤ 9) : RG g n h (adf W 9 x) (up M g 7 y) := by
  obtain ⟨r1, r2, r3, r4, r5, r6⟩ := hR
  refine ⟨by rw [up_slot _ (by decide)]; exact r1, by rw [up_slot _ (by decide), adf_o (by omega)]; exact r2, by rw [up_slot _ (by decide), adf_o (by omega)]; exact r3, by rw [up_slot _ (by decide), adf_o (by omega)]; exact r4, by rw [up_slot _ (by decide), adf_o (by omega)]; exact r5, fun r hr => ?_⟩
  have hc : ∀ j, up M g 7 y (g + 2 + r) j = M (g + 2 + r) j := fun j => up_cell (by omega)
  obtain ⟨p1, p2, p3, p4, p5, p6, p7⟩ := r6 r hr
  refine ⟨by rw [hc, adf_o (by omega)]; exact p1, by rw [hc, adf_o (by omega)]; exact p2, by rw [hc, adf_o (by omega)]; exact p3, by rw [hc, adf_o (by omega)]; exact p4, by rw [hc]; exact p5, by rw [hc, adf_o (by omega)]; exact p6, by rw [hc, adf_o (by omega)]; exact p7⟩
theorem RG.same {g n : Nat} {h : Nat → Int32} {W : Nat → Nat} {M M1 : Mem} (hR : RG g n h W M) (hn : n ≤ 9) (hk : ∀ c, g ≤ c → c ≤ g + 10 → M1 c = M c) : RG g n h W M1 := by
  obtain ⟨r1, r2, r3, r4, r5, r6⟩ := hR
  have e := hk g (by omega) (by omega)
  refine ⟨by rw [e]; exact r1, by rw [e]; exact r2, by rw [e]; exact r3, by rw [e]; exact r4, by rw [e]; exact r5, fun r hr => by rw [hk (g + 2 + r) (by omega) (by omega)]; exact r6 r hr⟩
