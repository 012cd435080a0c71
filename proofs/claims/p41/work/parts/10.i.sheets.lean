section SQ
variable {n : Nat} {M : Mem} {K : Int32 → Mem → Prop}
/-- what sheet answers -/
def shAns (a b c : Int32) : Int32 := if ¬ (0 ≤ a.toInt ∧ a.toInt ≤ 3) then -1000000001 else if ¬ (b = 0 ∨ b = 8 ∨ b = 16 ∨ b = 32) then -1000000001 else if ¬ b = 0 ∧ c.toInt < 0 then -1000000003 else if ¬ b = 0 ∧ 40 < c.toInt then -1000000001 else 1
theorem p_sheet {a b c : Int32} (hg : ∀ j z : Nat, j < 4 → a = nI j → z ≤ 40 → (b = 0 → z = 0) → (¬ b = 0 → c = nI z) → ∀ M1, St (fun b => b == 70 + 2 * j || b == 71 + 2 * j) M M1 → M1 (70 + 2 * j) 1 = b → M1 (70 + 2 * j) 2 = nI z → (∀ k, k < 40 → M1 (71 + 2 * j) k = 0) → shAns a b c = 1 → K (shAns a b c) M1)
    (hb : shAns a b c ≠ 1 → ∀ M1, St SX M M1 → K (shAns a b c) M1) : wp_X7_sheet a b c M K := by
  unfold wp_X7_sheet
  refine s7 (fun j hj ej => b1a ?_) (fun g => b0a ?_)
  · subst ej
    have ea : 0 ≤ (nI j).toInt ∧ (nI j).toInt ≤ 3 := by rw [nI_toInt (by omega)]; omega
    have hblk : (b = 0 ∨ b = 8 ∨ b = 16 ∨ b = 32) → (¬ b = 0 → 0 ≤ c.toInt) → wp_X7_sheet_b51 K (nI j) b c M := by
      intro hbits hc0
      unfold wp_X7_sheet_b51
      rw [nI_clamp (by omega)]
      have hl : ∀ z : Nat, z ≤ 40 → (b = 0 → z = 0) → (¬ b = 0 → c = nI z) → wp_X3_lay (70 + 2 * j) b (nI z) M (fun M1 => K 1 M1) := by
        intro z hz h0 h1
        have e1 : shAns (nI j) b c = 1 := by
          unfold shAns
          rw [if_neg (fun h => h ea), if_neg (fun h => h hbits), if_neg (fun h => by have := hc0 h.1; omega), if_neg (fun h => ?_)]
          have := h1 h.1
          have h2 := h.2
          rw [this, nI_toInt (by omega)] at h2; omega
        refine p_lay (rf_sh hj) (ln_sh hj) (by omega) (fun M1 g1 g2 g3 g4 => ?_)
        have := hg j z hj rfl hz h0 h1 M1 g1 g2 g3 g4 e1
        rw [e1] at this; exact this
      refine ⟨fun e => ⟨vp_in_nI hj (by decide), fun e2 => absurd e e2, fun _ => hl 0 (by omega) (fun _ => rfl) (fun h => absurd e h)⟩, fun e => ⟨fun q => ⟨vp_in_nI hj (by decide), fun _ => ?_, fun e2 => absurd e2 e⟩, fun q => ?_⟩⟩
      · have q2 := ti_le rfl (show (40 : Int32).toInt = 40 by decide) q
        obtain ⟨z, hz, rfl⟩ := nat_of (x := c) 40 (hc0 e) q2 (by decide)
        exact hl z hz (fun h => absurd h e) (fun _ => rfl)
      · have q2 := ti_nle rfl (show (40 : Int32).toInt = 40 by decide) q
        have e1 : shAns (nI j) b c = -1000000001 := by
          unfold shAns
          rw [if_neg (fun h => h ea), if_neg (fun h => h hbits), if_neg (fun h => by have := hc0 h.1; omega), if_pos ⟨e, by omega⟩]
        have := hb (by rw [e1]; decide) _ (St.rf.up (i := 78) (k := 1) (x := M 78 1 + 1) rfl)
        rw [e1] at this
        exact e7 1 (by decide) (by decide) this
    have hneg : (b = 0 ∨ b = 8 ∨ b = 16 ∨ b = 32) → (¬ b = 0) → ¬ 0 ≤ c → wp_X7_refuse (-1000000003) M (fun r7 M7 => K r7 M7) := by
      intro hbits e q
      have q2 := ti_nle (show (0 : Int32).toInt = 0 by decide) rfl q
      have e1 : shAns (nI j) b c = -1000000003 := by
        unfold shAns
        rw [if_neg (fun h => h ea), if_neg (fun h => h hbits), if_pos ⟨e, q2⟩]
      have := hb (by rw [e1]; decide) _ (St.rf.up (i := 78) (k := 3) (x := M 78 3 + 1) rfl)
      rw [e1] at this
      exact e7 3 (by decide) (by decide) this
    have hall : (b = 0 ∨ b = 8 ∨ b = 16 ∨ b = 32) → (b = 0 → wp_X7_sheet_b51 K (nI j) b c M) ∧ (¬ b = 0 → (0 ≤ c → wp_X7_sheet_b51 K (nI j) b c M) ∧ (¬ 0 ≤ c → wp_X7_refuse (-1000000003) M (fun r7 M7 => K r7 M7))) := fun hbits =>
      ⟨fun e => hblk hbits (fun h => absurd e h), fun e => ⟨fun q => hblk hbits (fun _ => by have := ti_le (show (0 : Int32).toInt = 0 by decide) rfl q; omega), fun q => hneg hbits e q⟩⟩
    refine ⟨fun e => hall (Or.inl e), fun e0 => ⟨fun e => hall (Or.inr (Or.inl e)), fun e8 => ⟨fun e => hall (Or.inr (Or.inr (Or.inl e))), fun e16 => ⟨fun e => hall (Or.inr (Or.inr (Or.inr e))), fun e32 => ?_⟩⟩⟩⟩
    have e1 : shAns (nI j) b c = -1000000001 := by
      unfold shAns
      rw [if_neg (fun h => h ea), if_pos (fun h => by rcases h with h | h | h | h <;> contradiction)]
    have := hb (by rw [e1]; decide) _ (St.rf.up (i := 78) (k := 1) (x := M 78 1 + 1) rfl)
    rw [e1] at this
    exact e7 1 (by decide) (by decide) this
  · have e1 : shAns a b c = -1000000001 := by
      unfold shAns
      rw [if_pos g]
    have := hb (by rw [e1]; decide) _ (St.rf.up (i := 78) (k := 1) (x := M 78 1 + 1) rfl)
    rw [e1] at this
    exact e7 1 (by decide) (by decide) this
/-- a number as so many bits keep it -/
def narB (b v : Int32) : Int32 := if b = 8 then v.toInt8.toInt32 else if b = 16 then v.toInt16.toInt32 else v
theorem p_put {a i v : Int32} (hS : SHc M) (hg : ∀ j z k : Nat, j < 4 → a = nI j → M (70 + 2 * j) 2 = nI z → z ≤ 40 → ¬ M (70 + 2 * j) 1 = 0 → k < z → i = nI k → K 1 (up M (71 + 2 * j) k (narB (M (70 + 2 * j) 1) v)))
    (hb : ¬ (0 ≤ a.toInt ∧ a.toInt ≤ 3) → ∀ M1, St SX M M1 → K (-1000000001) M1) (hm : ∀ j : Nat, j < 4 → a = nI j → M (70 + 2 * j) 1 = 0 → ∀ M1, St SX M M1 → K (-1000000002) M1)
    (hr : ∀ j z : Nat, j < 4 → a = nI j → M (70 + 2 * j) 2 = nI z → z ≤ 40 → ¬ M (70 + 2 * j) 1 = 0 → ¬ (0 ≤ i.toInt ∧ i.toInt < z) → ∀ M1, St SX M M1 → K (-1000000001) M1) : wp_X7_put a i v M K := by
  unfold wp_X7_put
  refine s7 (fun j hj ej => b1b ?_) (fun g => b0b (e7 1 (by decide) (by decide) (hb g _ (St.rf.up rfl))))
  subst ej
  rw [nI_clamp (by omega)]
  refine ⟨vp_in_nI hj (by decide), ?_⟩
  unfold wp_X3_isMissing
  refine ⟨fun q => b0a ?_, fun q => b1a (e7 2 (by decide) (by decide) (hm j hj rfl q _ (St.rf.up rfl)))⟩
  obtain ⟨z, hz, ez⟩ := hS j hj
  rw [ez]
  refine w7n 0 ((z : Int) - 1) (by decide) (nI_m1 (by omega)) (fun g1 g2 => ?_) (fun g => e7 1 (by decide) (by decide) (hr j z hj rfl ez hz q (by omega) _ (St.rf.up rfl)))
  obtain ⟨k, hk, rfl⟩ := nat_of (x := i) 39 g1 (by omega) (by decide)
  rw [nI_toInt (by omega)] at g2
  have h := hg j z k hj rfl ez hz q (by omega) rfl
  unfold wp_X3_write
  rw [rf_sh hj, ln_sh hj, nI_clamp (by omega)]
  have hv : vp_in (nI k) 40 := vp_in_nI (by omega) (by decide)
  refine ⟨fun e8 => ⟨fun e16 => ⟨hv, ?_⟩, fun e16 => ⟨hv, ?_⟩⟩, fun e8 => ⟨hv, ?_⟩⟩
  · rw [narB, if_neg e8, if_neg e16] at h; exact h
  · rw [narB, if_neg e8, if_pos e16] at h; exact h
  · rw [narB, if_pos e8] at h; exact h
theorem hasN {x z : Nat} {i c : Int32} {A B : Int32 → Mem → Prop} (hz : z ≤ 40) (ez : M x 2 = nI z) (h1 : 0 ≤ i.toInt → 0 ≤ c.toInt → i.toInt + c.toInt ≤ z → B 1 M) (h0 : ¬ (0 ≤ i.toInt ∧ 0 ≤ c.toInt ∧ i.toInt + c.toInt ≤ z) → A 0 M) : wp_X3_hasNumbers x i c M (fun r N => (r = 0 → A r N) ∧ (¬ r = 0 → B r N)) := by
  unfold wp_X3_hasNumbers
  refine ⟨fun q => b0a (h0 ?_), fun q1 => ⟨fun q => b0a (h0 ?_), fun q2 => ?_⟩⟩
  · have := ti_lt rfl (show (0 : Int32).toInt = 0 by decide) q; omega
  · have := ti_lt rfl (show (0 : Int32).toInt = 0 by decide) q; omega
  · have g1 := ti_nlt rfl (show (0 : Int32).toInt = 0 by decide) q1
    have g2 := ti_nlt rfl (show (0 : Int32).toInt = 0 by decide) q2
    have es : (M x 2 - i).toInt = (z : Int) - i.toInt := by
      rw [ez, Int32.toInt_sub, nI_toInt (by omega)]
      have := Int32.toInt_lt i
      exact Int.bmod_eq_of_le (by omega) (by omega)
    refine ⟨fun q => b0a (h0 ?_), fun q => b1a (h1 g1 g2 ?_)⟩
    · have := ti_lt es rfl q; omega
    · have := ti_nlt es rfl q; omega
theorem hasNn {x z : Nat} {i c : Int32} {A B : Int32 → Mem → Prop} (hz : z ≤ 40) (ez : M x 2 = nI z) (h1 : 0 ≤ i.toInt → 0 ≤ c.toInt → i.toInt + c.toInt ≤ z → B 1 M) (h0 : ¬ (0 ≤ i.toInt ∧ 0 ≤ c.toInt ∧ i.toInt + c.toInt ≤ z) → A 0 M) : wp_X3_hasNumbers x i c M (fun r N => (¬ r = 0 → B r N) ∧ (r = 0 → A r N)) := by
  have := hasN (A := fun r N => A r N) (B := fun r N => B r N) hz ez h1 h0
  unfold wp_X3_hasNumbers at this ⊢
  refine ⟨fun q => ⟨(this.1 q).2, (this.1 q).1⟩, fun q1 => ⟨fun q => ⟨((this.2 q1).1 q).2, ((this.2 q1).1 q).1⟩, fun q2 => ⟨fun q => ⟨(((this.2 q1).2 q2).1 q).2, (((this.2 q1).2 q2).1 q).1⟩, fun q => ⟨(((this.2 q1).2 q2).2 q).2, (((this.2 q1).2 q2).2 q).1⟩⟩⟩⟩
/-- what move asks of two rows of z1, z2 numbers -/
def MvG (z1 z2 : Nat) (i j c : Int32) : Prop := (0 ≤ i.toInt ∧ 0 ≤ c.toInt ∧ i.toInt + c.toInt ≤ z1) ∧ (0 ≤ j.toInt ∧ 0 ≤ c.toInt ∧ j.toInt + c.toInt ≤ z2)
theorem p_move {s i o j c : Int32} (hS : SHc M)
    (hg : ∀ p q z1 z2 I J N : Nat, p < 4 → q < 4 → s = nI p → o = nI q → M (70 + 2 * p) 2 = nI z1 → z1 ≤ 40 → M (70 + 2 * q) 2 = nI z2 → z2 ≤ 40 → ¬ M (70 + 2 * p) 1 = 0 → ¬ M (70 + 2 * q) 1 = 0 → M (70 + 2 * p) 1 = M (70 + 2 * q) 1 → i = nI I → j = nI J → c = nI N → I + N ≤ z1 → J + N ≤ z2 → K c (upA M (71 + 2 * q) (va_cpy (M (71 + 2 * p)) (M (71 + 2 * q)) I J N)))
    (hb : ¬ ((0 ≤ s.toInt ∧ s.toInt ≤ 3) ∧ 0 ≤ o.toInt ∧ o.toInt ≤ 3) → ∀ M1, St SX M M1 → K (-1000000001) M1)
    (hm : ∀ p q : Nat, p < 4 → q < 4 → s = nI p → o = nI q → (M (70 + 2 * p) 1 = 0 ∨ M (70 + 2 * q) 1 = 0) → ∀ M1, St SX M M1 → K (-1000000002) M1)
    (hu : ∀ p q : Nat, p < 4 → q < 4 → s = nI p → o = nI q → ¬ M (70 + 2 * p) 1 = 0 → ¬ M (70 + 2 * q) 1 = 0 → ¬ M (70 + 2 * p) 1 = M (70 + 2 * q) 1 → ∀ M1, St SX M M1 → K (-1000000005) M1)
    (hr : ∀ p q z1 z2 : Nat, p < 4 → q < 4 → s = nI p → o = nI q → M (70 + 2 * p) 2 = nI z1 → z1 ≤ 40 → M (70 + 2 * q) 2 = nI z2 → z2 ≤ 40 → ¬ M (70 + 2 * p) 1 = 0 → ¬ M (70 + 2 * q) 1 = 0 → M (70 + 2 * p) 1 = M (70 + 2 * q) 1 → ¬ MvG z1 z2 i j c → ∀ M1, St SX M M1 → K (-1000000001) M1) : wp_X7_move s i o j c M K := by
  unfold wp_X7_move
  refine s7 (fun p hp ep => b1a ?_) (fun g => b0a (e7 1 (by decide) (by decide) (hb (fun h => g h.1) _ (St.rf.up rfl))))
  subst ep
  refine s7 (fun q hq eq => b1b ?_) (fun g => b0b (e7 1 (by decide) (by decide) (hb (fun h => g h.2) _ (St.rf.up rfl))))
  subst eq
  rw [nI_clamp (by omega), nI_clamp (by omega)]
  refine ⟨vp_in_nI hp (by decide), vp_in_nI hq (by decide), ?_⟩
  unfold wp_X3_isMissing
  refine ⟨fun m1 => b0b ?_, fun m1 => b1b (e7 2 (by decide) (by decide) (hm p q hp hq rfl rfl (Or.inl m1) _ (St.rf.up rfl)))⟩
  refine ⟨fun m2 => b0a ?_, fun m2 => b1a (e7 2 (by decide) (by decide) (hm p q hp hq rfl rfl (Or.inr m2) _ (St.rf.up rfl)))⟩
  refine ⟨fun m3 => ?_, fun m3 => e7 5 (by decide) (by decide) (hu p q hp hq rfl rfl m1 m2 m3 _ (St.rf.up rfl))⟩
  obtain ⟨z1, hz1, ez1⟩ := hS p hp
  obtain ⟨z2, hz2, ez2⟩ := hS q hq
  have hr := hr p q z1 z2 hp hq rfl rfl ez1 hz1 ez2 hz2 m1 m2 m3
  refine hasN hz1 ez1 (fun g1 g2 g3 => hasNn hz2 ez2 (fun g4 g5 g6 => ?_) (fun g => e7 1 (by decide) (by decide) (hr (fun h => g h.2) _ (St.rf.up rfl)))) (fun g => e7 1 (by decide) (by decide) (hr (fun h => g h.1) _ (St.rf.up rfl)))
  obtain ⟨I, hI, rfl⟩ := nat_of (x := i) 40 g1 (by omega) (by decide)
  obtain ⟨J, hJ, rfl⟩ := nat_of (x := j) 40 g4 (by omega) (by decide)
  obtain ⟨N, hN, rfl⟩ := nat_of (x := c) 40 g2 (by omega) (by decide)
  rw [nI_toInt (by omega), nI_toInt (by omega)] at g3 g6
  rw [rf_sh hp, rf_sh hq, ln_sh hp, ln_sh hq, nI_clamp (by omega), nI_clamp (by omega), nI_clamp (by omega)]
  refine ⟨nI_pos (by omega), nI_pos (by omega), nI_pos (by omega), by omega, by omega, ?_⟩
  rintro _ rfl
  exact hg p q z1 z2 I J N hp hq rfl rfl ez1 hz1 ez2 hz2 m1 m2 m3 rfl rfl rfl (by omega) (by omega)
end SQ
