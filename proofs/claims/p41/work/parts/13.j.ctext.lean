/-- a text copied, exactly -/
theorem e_copy {x0 x1 z : Nat} {M : Mem} {K : Mem → Prop} (h0 : TF x0) (h1 : TF x1) (hd : x0 + 5 ≤ x1 ∨ x1 + 5 ≤ x0) (hz : z ≤ 50) (ez : M x1 5 = nI z) (hk : ∀ M1, St (fun b => decide (x0 ≤ b) && decide (b ≤ x0 + 3)) M M1 → M1 x0 4 = M x1 4 → M1 x0 5 = nI z → (∀ j, j < z → M1 (x0 + 1) j = M (x1 + 1) j ∧ M1 (x0 + 2) j = M (x1 + 2) j ∧ M1 (x0 + 3) j = M (x1 + 3) j) → K M1) : wp_X4_copyFrom x0 x1 M K := by
  obtain ⟨a0, a1, a2, a3, b0, b1, b2, b3⟩ := h0
  obtain ⟨c0, c1, c2, c3, d0, d1, d2, d3⟩ := h1
  unfold wp_X4_copyFrom
  simp only [a0, a1, a2, c0, c1, c2, b0, b1, b2, d0, d1, d2, ez, nI_clamp (show z < 2 ^ 31 by omega)]
  have hp : ¬ nI z < 0 := nI_pos (by omega)
  have hz0 : (0 : Int32).toNatClampNeg + z ≤ 50 := by simp; omega
  refine ⟨by decide, by decide, hp, hz0, hz0, ?_⟩
  rintro _ rfl
  simp only [upA_cell (show x1 ≠ x0 + 1 by omega), ez, nI_clamp (show z < 2 ^ 31 by omega)]
  refine ⟨by decide, by decide, hp, hz0, hz0, ?_⟩
  rintro _ rfl
  simp only [upA_cell (show x1 ≠ x0 + 1 by omega), upA_cell (show x1 ≠ x0 + 2 by omega), ez, nI_clamp (show z < 2 ^ 31 by omega)]
  refine ⟨by decide, by decide, hp, hz0, hz0, ?_⟩
  rintro _ rfl
  simp only [up_cell (show x1 ≠ x0 by omega), upA_cell (show x1 ≠ x0 + 1 by omega), upA_cell (show x1 ≠ x0 + 2 by omega), upA_cell (show x1 ≠ x0 + 3 by omega), upA_cell (show x1 + 1 ≠ x0 + 1 by omega), upA_cell (show x1 + 2 ≠ x0 + 1 by omega), upA_cell (show x1 + 3 ≠ x0 + 1 by omega), upA_cell (show x1 + 2 ≠ x0 + 2 by omega), upA_cell (show x1 + 3 ≠ x0 + 2 by omega), upA_cell (show x0 + 2 ≠ x0 + 1 by omega), upA_cell (show x0 + 3 ≠ x0 + 1 by omega), upA_cell (show x0 + 3 ≠ x0 + 2 by omega), ez]
  refine hk _ (((((St.rf.upA (by simp)).upA (by simp)).upA (by simp)).up (by simp)).up (by simp)) ?_ up_same (fun j hjz => ?_)
  · rw [up_slot _ (by decide), up_same]
  · simp only [up_cell (show x0 + 1 ≠ x0 by omega), up_cell (show x0 + 2 ≠ x0 by omega), up_cell (show x0 + 3 ≠ x0 by omega), upA_same, upA_cell (show x0 + 1 ≠ x0 + 2 by omega), upA_cell (show x0 + 1 ≠ x0 + 3 by omega), upA_cell (show x0 + 2 ≠ x0 + 3 by omega)]
    have hc : ∀ f g : Nat → Int32, va_cpy f g (0 : Int32).toNatClampNeg (0 : Int32).toNatClampNeg z j = f j := fun f g => by
      rw [pk_cpy_in (by simp) (by simp; omega)]; simp
    rw [hc, hc, hc]
    exact ⟨rfl, rfl, rfl⟩
/-- a text that the class has read: its nodes say the steps f -/
def CTX (t u z : Nat) (f : Nat → Nat) (M : Mem) : Prop := 1 ≤ z ∧ z ≤ 50 ∧ M t 4 = nI u ∧ M t 5 = nI z ∧ ∃ (g : Nat → Nat) (σ : Nat → Nat → Nat), SQs (M (t + 1)) (M (t + 2)) (M (t + 3)) (fun j => nI (f j)) z g σ ∧ g z = 1
theorem CTX.tq {t u z : Nat} {f : Nat → Nat} {M : Mem} {r : Nat → Int32} (h : CTX t u z f M) (r5 : r (5 + u) = nI z) (rt : ∀ j, j < z → r (144 + 50 * u + j) = nI (f j)) : TQ t u r M := by
  obtain ⟨h1, h2, h3, h4, g, σ, h5, h6⟩ := h
  refine ⟨h3, Or.inr ⟨z, g, σ, h1, h2, h4, r5, ⟨h5.1, fun k hk => ?_⟩, h6⟩⟩
  have := h5.2 k hk
  show SQ _ _ _ (r (144 + 50 * u + k)) _ _ _ _ _
  rw [rt k hk]; exact this
abbrev SCT (u b : Nat) : Bool := b == 1 || (decide (60 ≤ b) && decide (b ≤ 66)) || (decide (2 + 5 * u ≤ b) && decide (b ≤ 5 + 5 * u))
theorem e_ctext {b u : Nat} {T : Nat → Int32} {M : Mem} {K : Int32 → Mem → Prop} (hb : b ≤ 50) (hu : u < 2) (hw : M 1 5 = nI b) (hT : ∀ j, j < b → M 23 j = T j)
    (hk1 : (rdS T b u).1 = true → (rdS T b u).2.1 = b → ∀ M1, St (SCT u) M M1 → (∀ k, k ≠ 5 → M1 1 k = M 1 k) → M1 1 5 = 0 → CTX (2 + 5 * u) u (rdS T b u).2.2.1 (rdS T b u).2.2.2 M1 → K 1 M1)
    (hk0 : ¬ ((rdS T b u).1 = true ∧ (rdS T b u).2.1 = b) → ∀ M1, St (fun b => b == 1 || SR b) M M1 → (∀ k, k ≠ 5 → M1 1 k = M 1 k) → M1 1 5 = 0 → K (-10 - nI (rdS T b u).2.1) M1) : wp_X7_text (nI u) M K := by
  unfold wp_X7_text
  refine w7 0 1 (by decide) (by decide) (fun _ _ => ⟨fun _ => ?_, fun q => absurd q (by decide)⟩) (fun g => absurd ⟨by rw [nI_toInt (by omega)]; omega, by rw [nI_toInt (by omega)]; omega⟩ g)
  rw [hw]
  have hp := rdS_p (T := T) (m := b) (u := u)
  refine e_read hb hu rfl (by decide) hT (fun e1 e2 g σ M1 hS => ⟨fun _ => ?_, fun q => absurd (by decide) q⟩) (fun hn M1 hs => ⟨fun q => ?_, fun _ => ?_⟩)
  · obtain ⟨h1, h2, h3, h4, h5, h6, h7, h8, h9, h10, h11, h12⟩ := hS
    have hz1 := hp.2 e1
    have key : ∀ t, t = 2 + 5 * u → TF t → (t + 5 ≤ 61 ∨ 61 + 5 ≤ t) → wp_X4_copyFrom t 61 (up M1 1 5 0) (fun M7 => K 1 M7) := by
      intro t ht hF hd
      have ht10 : t ≤ 7 ∧ 2 ≤ t := by omega
      refine e_copy (z := (rdS T b u).2.2.1) hF TF61 hd (by omega) (by rw [up_cell (by decide)]; exact h9) (fun M2 g1 g2 g3 g4 => ?_)
      have e1' : M2 1 = (up M1 1 5 0) 1 := g1 1 (by simp; omega)
      refine hk1 e1 e2 M2 (fun c hc => ?_) (fun k hk => ?_) ?_ ?_
      · have c1 : M2 c = (up M1 1 5 0) c := g1 c (by simp at hc ⊢; omega)
        have c2 : (up M1 1 5 0) c = M1 c := up_o c (by simp at hc; omega)
        have c3 : M1 c = M c := h1 c (by simp at hc ⊢; omega)
        rw [c1, c2, c3]
      · rw [e1', up_slot _ hk, h1 1 rfl]
      · rw [e1', up_same]
      · rw [← ht]
        refine ⟨hz1, by omega, by rw [g2, up_cell (by decide)]; exact h8.2, g3, g, σ, ⟨h11.1, fun k hk => ?_⟩, h12⟩
        obtain ⟨q1, q2, q3⟩ := g4 k hk
        rw [q1, q2, q3, up_o _ (by decide), up_o _ (by decide), up_o _ (by decide)]
        exact h11.2 k hk
    unfold wp_X6_textOf
    refine ⟨fun q => ⟨cl_t7, ?_⟩, fun q => ⟨cl_t2, ?_⟩⟩
    · have : u = 1 := by
        rcases (by omega : u = 0 ∨ u = 1) with r | r
        · subst r; exact absurd rfl q
        · exact r
      exact key 7 (by omega) TF7 (by omega)
    · have : u = 0 := (nI_eq (a := u) (b := 0) (by omega) (by omega)).mp q
      exact key 2 (by omega) TF2 (by omega)
  · exact absurd q (nI_pos (by omega))
  · exact hk0 hn _ ((hs.w (by intro c hc; simp at hc ⊢; omega)).up (by simp)) (fun k hk => by rw [up_slot _ hk, hs 1 rfl]) up_same
