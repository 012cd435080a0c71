/-- the whole reading, by the grammar's function -/
def rdS (T : Nat → Int32) (m u : Nat) : PRs := LVs T m (QQ T m u 5) 5 (0, 0, fun _ => 0)
theorem rdS_p {T : Nat → Int32} {m u : Nat} : (rdS T m u).2.1 ≤ m ∧ ((rdS T m u).1 = true → 1 ≤ (rdS T m u).2.2.1) := by
  have h := LVs_good (T := T) (QQ_good (T := T) (u := u) (m := m) 5) 5 (0, 0, fun _ => 0) (Nat.zero_le _)
  exact ⟨h.2.1, fun e => by have := (h.2.2 e).2; show 1 ≤ (LVs T m (QQ T m u 5) 5 (0, 0, fun _ => 0)).2.2.1; omega⟩
theorem e_read {x b u : Nat} {T : Nat → Int32} {M : Mem} {K : Int32 → Mem → Prop} (hb : b ≤ 50) (hu : u < 2) (hx : ln x = 50) (hx6 : x ≠ 60) (hT : ∀ j, j < b → M x j = T j)
    (hk1 : (rdS T b u).1 = true → (rdS T b u).2.1 = b → ∀ (g : Nat → Nat) (σ : Nat → Nat → Nat) (M1 : Mem), CS T u b b (rdS T b u).2.2.1 (rdS T b u).2.2.2 g σ 1 M M1 → K (-1) M1)
    (hk0 : ¬ ((rdS T b u).1 = true ∧ (rdS T b u).2.1 = b) → ∀ M1, St SR M M1 → K (nI (rdS T b u).2.1) M1) : wp_X2_read x (nI b) (nI u) M K := by
  unfold wp_X2_read
  have hif : (if (50 : Int32) < nI b then (50 : Int32) else nI b) = nI b := if_neg (nI_nlt (a := 50) (b := b) hb (by omega))
  rw [hif]
  simp only [up_same, nI_clamp (show b < 2 ^ 31 by omega), hx]
  refine ⟨by decide, by decide, nI_pos (by omega), by simp; omega, by simp; omega, ?_⟩
  rintro _ rfl
  unfold wp_X4_clear
  have hp := rdS_p (T := T) (m := b) (u := u)
  refine (c_group (T := T) (u := u) (m := b) 64).1 0 0 (p := 0) (k := 0) (f := fun _ => 0) (g := fun _ => 0) (σ := fun _ _ => 0) (d := 0) (M0 := M) (by omega) (by omega) (by omega) ?_ (fun r M1 h1 => ?_)
  · refine ⟨(((((St.rf.up rfl).upA rfl).up rfl).up rfl).up rfl).up rfl, Nat.zero_le _, hb, Nat.le_refl 0, ?_, ?_, ?_, ⟨hu, ?_⟩, ?_, fun j hj => ?_, ⟨rfl, fun k hk => absurd hk (Nat.not_lt_zero k)⟩, rfl⟩
    · rw [up_cell (by decide), up_cell (by decide), up_slot _ (by decide), up_slot _ (by decide), upA_cell (by decide), up_same]
    · rw [up_cell (by decide), up_cell (by decide), up_slot _ (by decide), up_same]; rfl
    · rw [up_cell (by decide), up_cell (by decide), up_same]
    · rw [up_slot _ (by decide), up_same]
    · rw [up_same]; rfl
    · rw [up_cell (by decide), up_cell (by decide), up_cell (by decide), up_cell (by decide), upA_same]
      have e0 : (0 : Int32).toNatClampNeg = 0 := by decide
      simp only [va_cpy, e0]
      rw [if_pos ⟨Nat.zero_le _, by omega⟩, up_o x hx6, Nat.zero_add, Nat.sub_zero]
      exact hT j hj
  · have h1' : CQ T u b 0 (fun _ => 0) M (rdS T b u) r M1 := h1
    rcases h1' with ⟨e, g, σ, hS, -, -⟩ | ⟨e, hF⟩
    · have h7 := hS.2.2.2.2.2.2.1
      have h5 := hS.2.2.2.2.1
      have h6 := hS.2.2.2.2.2.1
      refine ⟨fun q => by rw [h7] at q; exact absurd q (by decide), fun _ => ⟨fun q => ?_, fun q => ?_⟩⟩
      · rw [h5, h6] at q
        have := le_of_nI q (by omega) (by omega)
        have eb : (rdS T b u).2.1 = b := by omega
        rw [h7]
        rw [eb] at hS
        exact hk1 e eb g σ M1 hS
      · rw [h5, h6] at q
        have := lt_of_nI q (by omega) (by omega)
        rw [h6]
        exact hk0 (fun hh => by omega) _ (hS.1.up rfl)
    · have h4 := hF.2.2.2.2.2.1
      have hf := hk0 (fun hh => by rw [hh.1] at e; cases e) M1 hF.1
      refine ⟨fun _ => by rw [h4]; exact hf, fun q => ?_⟩
      rw [h4] at q
      exact absurd (nI_le (a := 0) (b := (rdS T b u).2.1) (by omega) (by omega)) q
