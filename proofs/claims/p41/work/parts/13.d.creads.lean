/-! the class' Reader does as the grammar's function -/
def CS (T : Nat → Int32) (u m p k : Nat) (f g : Nat → Nat) (σ : Nat → Nat → Nat) (d : Nat) (M0 M : Mem) : Prop :=
  St SR M0 M ∧ p ≤ m ∧ m ≤ 50 ∧ k ≤ p ∧ M 60 2 = nI m ∧ M 60 3 = nI p ∧ M 60 4 = -1 ∧ (u < 2 ∧ M 61 4 = nI u) ∧ M 61 5 = nI k ∧ (∀ j, j < m → M 66 j = T j) ∧ SQs (M 62) (M 63) (M 64) (fun j => nI (f j)) k g σ ∧ g k = d
def CF (m p : Nat) (M0 M : Mem) : Prop := St SR M0 M ∧ p ≤ m ∧ m ≤ 50 ∧ M 60 2 = nI m ∧ M 60 3 = nI p ∧ M 60 4 = nI p ∧ ∃ z : Nat, z ≤ 50 ∧ M 61 5 = nI z
def CQ (T : Nat → Int32) (u m : Nat) (d : Nat) (τ : Nat → Nat) (M0 : Mem) (res : PRs) (r : Int32) (M1 : Mem) : Prop :=
  (res.1 = true ∧ ∃ (g : Nat → Nat) (σ : Nat → Nat → Nat), CS T u m res.2.1 res.2.2.1 res.2.2.2 g σ (d + 1) M0 M1 ∧ (∀ e, e < d → σ res.2.2.1 e = τ e) ∧ r = nI (σ res.2.2.1 d)) ∨ (res.1 = false ∧ CF m res.2.1 M0 M1)
section CR
variable {T : Nat → Int32} {u m p k : Nat} {f g : Nat → Nat} {σ : Nat → Nat → Nat} {d : Nat} {M0 M : Mem}
theorem SQs.ext {S L R S1 L1 R1 f1 : Nat → Int32} {f0 : Nat → Int32} {d1 : Nat} {σ1 : Nat → Nat} (h : SQs S L R f0 k g σ) (e1 : ∀ j, j < k → S1 j = S j ∧ L1 j = L j ∧ R1 j = R j ∧ f1 j = f0 j) (hq : SQ (S1 k) (L1 k) (R1 k) (f1 k) k (g k) d1 (σ k) σ1) : SQs S1 L1 R1 f1 (k + 1) (adf g (k + 1) d1) (fun j => if j = k + 1 then σ1 else σ j) := by
  refine ⟨by rw [adf_o (by omega)]; exact h.1, fun j hj => ?_⟩
  rcases Nat.lt_or_ge j k with c | c
  · have := h.2 j c
    obtain ⟨a1, a2, a3, a4⟩ := e1 j c
    rw [a1, a2, a3, a4, adf_o (by omega), adf_o (by omega)]
    simp only [if_neg (show ¬ j = k + 1 by omega), if_neg (show ¬ j + 1 = k + 1 by omega)]
    exact this
  · have : j = k := by omega
    subst this
    rw [adf_o (by omega), adf_s]
    simp only [if_neg (show ¬ j = j + 1 by omega), if_true]
    exact hq
theorem c_add {s l r : Int32} {v d1 : Nat} {σ1 : Nat → Nat} {K : Int32 → Mem → Prop} (h : CS T u m p k f g σ d M0 M) (hk : k + 1 ≤ p) (hq : SQ s l r (nI v) k d d1 (σ k) σ1) (hK : ∀ M1, CS T u m p (k + 1) (adf f k v) (adf g (k + 1) d1) (fun j => if j = k + 1 then σ1 else σ j) d1 M0 M1 → K (nI k) M1) : wp_X4_add 61 s l r M K := by
  obtain ⟨h1, h2, h3, h4, h5, h6, h7, h8, h9, h10, h11, h12⟩ := h
  unfold wp_X4_add
  simp only [show rf 61 0 = 62 from rfl, show rf 61 1 = 63 from rfl, show rf 61 2 = 64 from rfl, show ln 62 = 50 from rfl, show ln 63 = 50 from rfl, show ln 64 = 50 from rfl]
  simp only [up_cell (show 61 ≠ 62 by decide), up_cell (show 61 ≠ 63 by decide), h9]
  refine ⟨fun q => absurd (le_of_nI (a := 50) q (by omega) (by omega)) (by omega), fun _ => ?_⟩
  have hv : vp_in (nI k) 50 := vp_in_nI (by omega) (by decide)
  refine ⟨hv, hv, hv, ?_⟩
  rw [nI_clamp (by omega)]
  rintro _ rfl
  simp only [up_same, up_cell (show 61 ≠ 62 by decide), up_cell (show 61 ≠ 63 by decide), up_cell (show 61 ≠ 64 by decide), h9]
  rw [nI_1, nI_pred]
  refine hK _ ⟨(((h1.up rfl).up rfl).up rfl).up rfl, h2, h3, hk, ?_, ?_, ?_, ⟨h8.1, ?_⟩, up_same, ?_, ?_, adf_s⟩
  · rw [up_cell (by decide), up_cell (by decide), up_cell (by decide), up_cell (by decide)]; exact h5
  · rw [up_cell (by decide), up_cell (by decide), up_cell (by decide), up_cell (by decide)]; exact h6
  · rw [up_cell (by decide), up_cell (by decide), up_cell (by decide), up_cell (by decide)]; exact h7
  · rw [up_slot _ (by decide), up_cell (by decide), up_cell (by decide), up_cell (by decide)]; exact h8.2
  · intro j hj
    rw [up_cell (by decide), up_cell (by decide), up_cell (by decide), up_cell (by decide)]; exact h10 j hj
  · rw [h12.symm] at hq
    refine h11.ext (fun j hj => ?_) ?_
    · have hne : j ≠ k := by omega
      simp only [up_cell (show 62 ≠ 61 by decide), up_cell (show 62 ≠ 63 by decide), up_cell (show 62 ≠ 64 by decide), up_cell (show 63 ≠ 61 by decide), up_cell (show 63 ≠ 62 by decide), up_cell (show 63 ≠ 64 by decide), up_cell (show 64 ≠ 61 by decide), up_cell (show 64 ≠ 62 by decide), up_cell (show 64 ≠ 63 by decide), up_slot _ hne, adf_o hne]
      exact ⟨trivial, trivial, trivial, trivial⟩
    · simp only [up_cell (show 62 ≠ 61 by decide), up_cell (show 62 ≠ 63 by decide), up_cell (show 62 ≠ 64 by decide), up_cell (show 63 ≠ 61 by decide), up_cell (show 63 ≠ 62 by decide), up_cell (show 63 ≠ 64 by decide), up_cell (show 64 ≠ 61 by decide), up_cell (show 64 ≠ 62 by decide), up_cell (show 64 ≠ 63 by decide), up_same, adf_s]
      exact hq
theorem f_add {s l r : Int32} {K : Int32 → Mem → Prop} (h : CF m p M0 M) (hK : ∀ x M1, CF m p M0 M1 → K x M1) : wp_X4_add 61 s l r M K := by
  obtain ⟨h1, h2, h3, h4, h5, h6, z, hz, ez⟩ := h
  unfold wp_X4_add
  simp only [show rf 61 0 = 62 from rfl, show rf 61 1 = 63 from rfl, show rf 61 2 = 64 from rfl, show ln 62 = 50 from rfl, show ln 63 = 50 from rfl, show ln 64 = 50 from rfl]
  simp only [up_cell (show 61 ≠ 62 by decide), up_cell (show 61 ≠ 63 by decide), ez]
  refine ⟨fun q => hK _ _ ⟨h1, h2, h3, h4, h5, h6, z, hz, ez⟩, fun q => ?_⟩
  have h50 : z < 50 := lt_of_nI (a := 50) q (by omega) (by omega)
  have hv : vp_in (nI z) 50 := vp_in_nI h50 (by decide)
  refine ⟨hv, hv, hv, ?_⟩
  rw [nI_clamp (by omega)]
  rintro _ rfl
  simp only [up_same, up_cell (show 61 ≠ 62 by decide), up_cell (show 61 ≠ 63 by decide), up_cell (show 61 ≠ 64 by decide), ez]
  rw [nI_1]
  have e60 : ∀ x y z2 w j, up (up (up (up M 62 z x) 63 z y) 64 z z2) 61 5 w 60 j = M 60 j := fun x y z2 w j => by
    rw [up_cell (by decide), up_cell (by decide), up_cell (by decide), up_cell (by decide)]
  exact hK _ _ ⟨(((h1.up rfl).up rfl).up rfl).up rfl, h2, h3, by rw [e60]; exact h4, by rw [e60]; exact h5, by rw [e60]; exact h6, z + 1, by omega, up_same⟩
theorem c_next {K : Int32 → Mem → Prop} (h : CS T u m p k f g σ d M0 M) (hk : K (nx T m p) M) : wp_X2_next M K := by
  obtain ⟨h1, h2, h3, h4, h5, h6, h7, h8, h9, h10, h11, h12⟩ := h
  unfold wp_X2_next
  rw [h5, h6]
  unfold nx at hk
  refine ⟨fun q => ?_, fun q => ?_⟩
  · have := le_of_nI q (by omega) (by omega)
    rw [if_neg (by omega)] at hk; exact hk
  · have hp := lt_of_nI q (by omega) (by omega)
    rw [if_pos hp] at hk
    rw [nI_clamp (by omega), h10 p hp]
    exact ⟨vp_in_nI (by omega) (by decide), hk⟩
theorem CS.go (h : CS T u m p k f g σ d M0 M) (hp : p < m) : CS T u m (p + 1) k f g σ d M0 (up M 60 3 (M 60 3 + 1)) := by
  obtain ⟨h1, h2, h3, h4, h5, h6, h7, h8, h9, h10, h11, h12⟩ := h
  refine ⟨h1.up rfl, hp, h3, by omega, by rw [up_slot _ (by decide)]; exact h5, by rw [up_same, h6, nI_1], by rw [up_slot _ (by decide)]; exact h7, ⟨h8.1, by rw [up_cell (by decide)]; exact h8.2⟩, by rw [up_cell (by decide)]; exact h9, fun j hj => by rw [up_cell (by decide)]; exact h10 j hj, ?_, h12⟩
  rw [up_o _ (by decide), up_o _ (by decide), up_o _ (by decide)]; exact h11
theorem c_stop {K : Int32 → Mem → Prop} (h : CS T u m p k f g σ d M0 M) (hk : ∀ r M1, CF m p M0 M1 → K r M1) : wp_X2_stop M K := by
  obtain ⟨h1, h2, h3, h4, h5, h6, h7, h8, h9, h10, h11, h12⟩ := h
  unfold wp_X2_stop
  rw [h7, h6]
  refine ⟨fun q => absurd q (by decide), fun _ => hk _ _ ⟨h1.up rfl, h2, h3, by rw [up_slot _ (by decide)]; exact h5, by rw [up_slot _ (by decide)]; exact h6, up_same, k, by omega, by rw [up_cell (by decide)]; exact h9⟩⟩
theorem f_stop {K : Int32 → Mem → Prop} (h : CF m p M0 M) (hk : ∀ r M1, CF m p M0 M1 → K r M1) : wp_X2_stop M K := by
  have h6 := h.2.2.2.2.2.1
  have hm := h.2.2.1
  have hp := h.2.1
  unfold wp_X2_stop
  rw [h6]
  exact ⟨fun _ => hk _ _ h, fun q => absurd (nI_le (a := 0) (b := p) (by omega) (by omega)) q⟩
theorem x_digit {x : Int32} {K : Int32 → Mem → Prop} (h1 : isD x = true → K 1 M) (h0 : ¬ isD x = true → K 0 M) : wp_X2_isDigit x M K := by
  unfold wp_X2_isDigit
  refine w7 48 57 (by decide) (by decide) (fun g1 g2 => ⟨Or.inr rfl, h1 ?_⟩) (fun g => ⟨Or.inl rfl, h0 ?_⟩)
  · simp [isD, g1, g2]
  · intro e; simp [isD] at e; exact g e
theorem x_name {x : Int32} {K : Int32 → Mem → Prop} (hu : u < 2) (hM : M 61 4 = nI u) (h1 : nmO u x < 3 → K (nI (nmO u x)) M) (h0 : ¬ nmO u x < 3 → K (-1) M) : wp_X2_nameOf x M K := by
  unfold wp_X2_nameOf
  rw [hM]
  refine ⟨fun a => ⟨fun b => ⟨fun c => ?_, fun c => ?_⟩, fun b => ?_⟩, fun a => ?_⟩
  · have hu1 : ¬ u = 0 := fun e => c (by rw [e]; rfl)
    have e : nmO u x = if x = 109 then 2 else 3 := by
      unfold nmO; rw [if_neg a, if_neg b, if_neg hu1]
    exact ⟨fun g => h0 (by rw [e, if_neg g]; decide), fun g => by have := h1 (by rw [e, if_pos g]; decide); rw [e, if_pos g] at this; exact this⟩
  · have hu1 : u = 0 := (nI_eq (a := u) (b := 0) (by omega) (by omega)).mp c
    have e : nmO u x = if x = 100 then 2 else 3 := by
      unfold nmO; rw [if_neg a, if_neg b, if_pos hu1]
    exact ⟨fun g => h0 (by rw [e, if_neg g]; decide), fun g => by have := h1 (by rw [e, if_pos g]; decide); rw [e, if_pos g] at this; exact this⟩
  · have e : nmO u x = 1 := by unfold nmO; rw [if_neg a, if_pos b]
    have := h1 (by rw [e]; decide); rw [e] at this; exact this
  · have e : nmO u x = 0 := by unfold nmO; rw [if_pos a]
    have := h1 (by rw [e]; decide); rw [e] at this; exact this
theorem x_level {x : Int32} {K : Int32 → Mem → Prop} (h1 : lvO x < 5 → K (nI (lvO x)) M) (h0 : ¬ lvO x < 5 → K (-1) M) : wp_X2_levelOf x M K := by
  unfold lvO at h1 h0
  unfold wp_X2_levelOf
  repeat' (first | (refine ⟨fun e => ?_, fun e => ?_⟩; (· rw [if_pos e] at h1; exact h1 (by decide)); rw [if_neg e] at h1 h0) | exact h0 (by decide))
end CR
