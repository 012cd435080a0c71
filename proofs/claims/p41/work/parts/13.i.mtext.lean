/-- the model's text, by the grammar's function: the row behind it -/
def rowT (f : Nat → Int32) (u z : Nat) (g : Nat → Nat) : Nat → Int32 := fun j => if j = 3 then 0 else if j = 5 + u then nI z else if 144 + 50 * u ≤ j ∧ j < 144 + 50 * u + z then nI (g (j - (144 + 50 * u))) else f j
def row3 (f : Nat → Int32) : Nat → Int32 := fun j => if j = 3 then 0 else f j
abbrev SMT (b : Nat) : Bool := b == 79 || b == 80 || b == 84
theorem e_mtext {b u : Nat} {T : Nat → Int32} {M : Mem} {K : Int32 → Mem → Prop} (hb : b ≤ 50) (hu : u < 2) (hw : M 80 3 = nI b) (hT : ∀ j, j < b → M 80 (74 + j) = T j)
    (hk1 : (rdS T b u).1 = true → (rdS T b u).2.1 = b → ∀ M1, St SMT M M1 → (∀ k, k < 6 ∨ 11 < k → M1 79 k = M 79 k) → M1 80 = rowT (M 80) u (rdS T b u).2.2.1 (rdS T b u).2.2.2 → K 1 M1)
    (hk0 : ¬ ((rdS T b u).1 = true ∧ (rdS T b u).2.1 = b) → ∀ M1, St SMT M M1 → (∀ k, k < 6 ∨ 11 < k → M1 79 k = M 79 k) → M1 80 = row3 (M 80) → K (-10 - nI (rdS T b u).2.1) M1) : wp_X8_text (nI u) M K := by
  unfold wp_X8_text
  refine w8 0 1 (by decide) (by decide) (fun _ _ => ⟨fun _ => ?_, fun q => absurd q (by decide)⟩) (fun g => absurd ⟨by rw [nI_toInt (by omega)]; omega, by rw [nI_toInt (by omega)]; omega⟩ g)
  have e8 : (up (up M 79 6 (nI u)) 79 7 0) 80 3 = nI b := by rw [up_cell (by decide), up_cell (by decide)]; exact hw
  rw [e8]
  have hM0 : (up (up (up (up (up (up M 79 6 (nI u)) 79 7 0) 79 8 (nI b)) 79 9 0) 79 10 0) 79 11 1) 80 = M 80 := by
    rw [up_o _ (by decide), up_o _ (by decide), up_o _ (by decide), up_o _ (by decide), up_o _ (by decide), up_o _ (by decide)]
  have hSt : St SMT M (up (up (up (up (up (up M 79 6 (nI u)) 79 7 0) 79 8 (nI b)) 79 9 0) 79 10 0) 79 11 1) := (((((St.rf.up rfl).up rfl).up rfl).up rfl).up rfl).up rfl
  have hsl : ∀ k, k < 6 ∨ 11 < k → (up (up (up (up (up (up M 79 6 (nI u)) 79 7 0) 79 8 (nI b)) 79 9 0) 79 10 0) 79 11 1) 79 k = M 79 k := fun k hk => by
    rw [up_slot _ (by omega), up_slot _ (by omega), up_slot _ (by omega), up_slot _ (by omega), up_slot _ (by omega), up_slot _ (by omega)]
  have hGS : GS T u b 0 0 (fun _ => 0) 0 (up (up (up (up (up (up M 79 6 (nI u)) 79 7 0) 79 8 (nI b)) 79 9 0) 79 10 0) 79 11 1) (up (up (up (up (up (up M 79 6 (nI u)) 79 7 0) 79 8 (nI b)) 79 9 0) 79 10 0) 79 11 1) := by
    refine ⟨⟨St.rf, fun _ _ _ _ _ => rfl⟩, by simp [up], hb, by simp [up]; rfl, Nat.zero_le _, by simp [up]; rfl, Nat.le_refl 0, by simp [up]; rfl, by omega, by simp [up], fun j hj => by rw [hM0]; exact hT j hj, ⟨hu, by simp [up]⟩, fun j hj => absurd hj (Nat.not_lt_zero j)⟩
  generalize (up (up (up (up (up (up M 79 6 (nI u)) 79 7 0) 79 8 (nI b)) 79 9 0) 79 10 0) 79 11 1) = Ms at hM0 hSt hsl hGS
  have hp := rdS_p (T := T) (m := b) (u := u)
  refine (g_group (T := T) (u := u) (m := b) 64).2.2.2.2.2 0 (by omega) (by omega) _ _ _ _ _ _ hGS (fun M3 h3 => ?_)
  have h3' : GR T u b 0 Ms (rdS T b u) M3 := h3
  have e11 : ∀ x, (up (up M3 79 11 x) 80 3 0) 79 11 = x := fun x => by rw [up_cell (by decide), up_same]
  have e7 : ∀ x, (up (up M3 79 11 x) 80 3 0) 79 7 = M3 79 7 := fun x => by rw [up_cell (by decide), up_slot _ (by decide)]
  have rest : PLt Ms M3 → ∀ x, St SMT M (up (up M3 79 11 x) 80 3 0) ∧ (∀ k, k < 6 ∨ 11 < k → (up (up M3 79 11 x) 80 3 0) 79 k = M 79 k) ∧ (up (up M3 79 11 x) 80 3 0) 80 = row3 (M 80) := fun hP x => by
    refine ⟨((hSt.tr (hP.1.w (by simp <;> omega))).up rfl).up rfl, fun k hk => ?_, ?_⟩
    · rw [up_cell (by decide), up_slot _ (by omega), hP.2 k (by omega) (by omega) (by omega) (by omega), hsl k hk]
    · funext j
      have e80 : (up M3 79 11 x) 80 = M 80 := by rw [up_o _ (by decide), hP.1 80 rfl, hM0]
      unfold row3
      by_cases e : j = 3
      · subst e; rw [up_same, if_pos rfl]
      · rw [up_slot _ e, if_neg e, e80]
  have bad : PLt Ms M3 → M3 79 7 = nI (rdS T b u).2.1 → ¬ ((rdS T b u).1 = true ∧ (rdS T b u).2.1 = b) → (¬ (up (up M3 79 11 0) 80 3 0) 79 11 = 0 → vp_in (5 + nI u) 244 ∧ (∃ m, wp_X8_text_L118 K (nI u) m 0 (up (up (up M3 79 11 0) 80 3 0) 80 (5 + nI u).toNatClampNeg ((up (up M3 79 11 0) 80 3 0) 79 10)))) ∧ ((up (up M3 79 11 0) 80 3 0) 79 11 = 0 → K (-10 - (up (up M3 79 11 0) 80 3 0) 79 7) (up (up M3 79 11 0) 80 3 0)) := fun hP h7 hn => by
    refine ⟨fun q => absurd (e11 0) q, fun _ => ?_⟩
    rw [e7, h7]
    obtain ⟨r1, r2, r3⟩ := rest hP 0
    exact hk0 hn _ r1 r2 r3
  rcases h3' with ⟨e, hS⟩ | ⟨e, g1, g4, g5⟩
  · obtain ⟨hP, p2, p3, p4, p5, p6, p7, p8, p9, p10, p11, p12, p13⟩ := hS
    refine ⟨fun q => absurd (p10.symm.trans q) (by decide), fun _ => ⟨fun q => ?_, fun q => ⟨fun _ => ?_, fun q2 => absurd ((e11 1).symm.trans q2) (by decide)⟩⟩⟩
    · have e8' : M3 79 8 = nI b := (hP.2 8 (by decide) (by decide) (by decide) (by decide)).trans p2
      exact bad hP p4 (fun hh => q (by rw [p4, e8', hh.2]))
    · have e8' : M3 79 8 = nI b := (hP.2 8 (by decide) (by decide) (by decide) (by decide)).trans p2
      have hpb : (rdS T b u).2.1 = b := by rw [p4, e8'] at q; exact (nI_eq (by omega) (by omega)).mp q
      obtain ⟨r1, r2, r3⟩ := rest hP 1
      have e5 : (5 : Int32) + nI u = nI (5 + u) := by rw [show (5 : Int32) = nI 5 from rfl, nI_add]
      have eb : (144 : Int32) + 50 * nI u = nI (144 + 50 * u) := by
        rw [show (50 : Int32) = nI 50 from rfl, show (144 : Int32) = nI 144 from rfl, pk_mul, nI_add]
      have e10 : (up (up M3 79 11 1) 80 3 0) 79 10 = nI (rdS T b u).2.2.1 := by rw [up_cell (by decide), up_slot _ (by decide)]; exact p6
      have e84 : (up (up M3 79 11 1) 80 3 0) 84 = M3 84 := by rw [up_o _ (by decide), up_o _ (by decide)]
      rw [e5, nI_clamp (by omega), e10]
      generalize hM4 : up (up M3 79 11 1) 80 3 0 = M4 at r1 r2 r3 e10 e84
      generalize hz : (rdS T b u).2.2.1 = z at *
      generalize hf : (rdS T b u).2.2.2 = f at *
      have hzb : z ≤ b := by omega
      refine ⟨vp_in_nI (by omega) (by decide), ?_⟩
      refine loopN (L := fun n i M' => wp_X8_text_L118 K (nI u) n i M') z (fun i M' => St (fun b => b == 80) M4 M' ∧ M' 80 = fun j => if j = 5 + u then nI z else if 144 + 50 * u ≤ j ∧ j < 144 + 50 * u + i then nI (f (j - (144 + 50 * u))) else row3 (M 80) j) ?_ 0 (Nat.zero_le _) ⟨St.rf.up rfl, ?_⟩
      · intro i M' n hi hs ih
        obtain ⟨hs, hr⟩ := hs
        show wp_X8_text_l118 K (nI u) (wp_X8_text_L118 K (nI u) n) (nI i) M'
        unfold wp_X8_text_l118
        have x10 : M' 79 10 = nI z := by rw [hs 79 rfl]; exact e10
        have x84 : M' 84 = M3 84 := by rw [hs 84 rfl]; exact e84
        rw [x10, eb, nI_add, nI_clamp (by omega), nI_clamp (by omega), x84, nI_1]
        refine ⟨fun q3 => ?_, fun q3 => ?_⟩
        · have : i = z := by have := le_of_nI q3 (by omega) (by omega); omega
          subst this
          refine hk1 e hpb M' (r1.tr (hs.w (by simp <;> omega))) (fun k hk => by rw [hs 79 rfl]; exact r2 k hk) ?_
          rw [hr]
          funext j
          unfold rowT row3
          by_cases c : j = 3
          · subst c; rw [if_neg (by omega), if_neg (by omega)]; rfl
          · rw [if_neg c, if_neg c]
        · have hiz : i < z := lt_of_nI q3 (by omega) (by omega)
          refine ⟨vp_in_nI (by omega) (by decide), vp_in_nI (by omega) (by decide), ih _ hiz ⟨hs.up rfl, ?_⟩⟩
          funext j
          by_cases c : j = 144 + 50 * u + i
          · subst c
            rw [up_same, if_neg (by omega), if_pos (by omega), p13 i hiz, show 144 + 50 * u + i - (144 + 50 * u) = i by omega]
          · rw [up_slot _ c, hr]
            by_cases c1 : j = 5 + u
            · simp only [if_pos c1]
            · simp only [if_neg c1]
              by_cases c2 : 144 + 50 * u ≤ j ∧ j < 144 + 50 * u + i
              · rw [if_pos c2, if_pos (by omega)]
              · rw [if_neg c2, if_neg (by omega)]
      · funext j
        by_cases c1 : j = 5 + u
        · subst c1; rw [up_same, if_pos rfl]
        · rw [up_slot _ c1, if_neg c1, if_neg (by omega), r3]
  · refine ⟨fun _ => bad g1 g5 (fun hh => by rw [hh.1] at e; cases e), fun q => absurd g4 q⟩
