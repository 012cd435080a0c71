/-! the model: its row is cell 80, what was kept 81, what was tried ahead 82 -/
def HangOK (x : Int32) : Prop := x < 0 ∨ ∃ j : Nat, j < 9 ∧ x = nI j
/-- a step of a walk: the pile's height before and behind -/
def SOK (s : Int32) (d0 d : Nat) : Prop := (∃ v : Nat, v < 10003 ∧ s = nI v ∧ d = d0 + 1) ∨ (s = nI 20033 ∧ 1 ≤ d0 ∧ d = d0) ∨ (∃ v : Nat, 20000 ≤ v ∧ v ≠ 20033 ∧ v < 2 ^ 30 ∧ s = nI v ∧ 2 ≤ d0 ∧ d + 1 = d0)
def RWg (f : Nat → Int32) (z : Nat) : Prop := ∃ g : Nat → Nat, g 0 = 0 ∧ ∀ k, k < z → SOK (f k) (g k) (g (k + 1))
def TO (f : Nat → Int32) (w : Nat) : Prop := f (5 + w) = -1 ∨ ∃ z : Nat, z ≤ 50 ∧ f (5 + w) = nI z ∧ RWg (fun j => f (144 + 50 * w + j)) z
/-- a row in order: n ones -/
def RO (n : Nat) (f : Nat → Int32) : Prop := n ≤ 9 ∧ f 2 = nI n ∧ (∀ q : Nat, q < n → HangOK (f (15 + 7 * q))) ∧ TO f 0 ∧ TO f 1
/-- the places that a day changes -/
def VOL (k : Nat) : Bool := k == 0 || k == 7 || k == 8 || k == 9 || k == 10 || (decide (11 ≤ k) && decide (k < 74) && ((k - 11) % 7 == 3 || (k - 11) % 7 == 5 || (k - 11) % 7 == 6))
theorem RO.keep {n : Nat} {f f1 : Nat → Int32} (h : RO n f) (hk : ∀ k, VOL k = false → f1 k = f k) : RO n f1 := by
  obtain ⟨h1, h2, h3, h4, h5⟩ := h
  have ht : ∀ w, w < 2 → TO f w → TO f1 w := fun w hw hT => by
    have e5 : f1 (5 + w) = f (5 + w) := hk _ (by rcases (by omega : w = 0 ∨ w = 1) with rfl | rfl <;> rfl)
    unfold TO
    rw [e5]
    rcases hT with e | ⟨z, hz, e, g, g0, hg⟩
    · exact Or.inl e
    · refine Or.inr ⟨z, hz, e, g, g0, fun k hkz => ?_⟩
      have : f1 (144 + 50 * w + k) = f (144 + 50 * w + k) := hk _ (by simp [VOL]; omega)
      show SOK (f1 (144 + 50 * w + k)) _ _
      rw [this]; exact hg k hkz
  refine ⟨h1, by rw [hk 2 rfl]; exact h2, fun q hq => ?_, ht 0 (by omega) h4, ht 1 (by omega) h5⟩
  rw [hk (15 + 7 * q) (by simp [VOL]; omega)]; exact h3 q hq
theorem ixm (q w : Nat) : (11 : Int32) + 7 * nI q + nI w = nI (11 + 7 * q + w) := by
  rw [show (7 : Int32) = nI 7 from rfl, show (11 : Int32) = nI 11 from rfl, pk_mul, nI_add, nI_add]
theorem m_its {q : Nat} (w : Nat) {M : Mem} {K : Int32 → Mem → Prop} (hq : 11 + 7 * q + w < 244) (h : K (M 80 (11 + 7 * q + w)) M) : wp_X8_its (nI q) (nI w) M K := by
  unfold wp_X8_its
  rw [ixm, nI_clamp (by omega)]
  exact ⟨vp_in_nI hq (by decide), h⟩
theorem m_gets {q : Nat} (w : Nat) {v : Int32} {M : Mem} {K : Mem → Prop} (hq : 11 + 7 * q + w < 244) (h : K (up M 80 (11 + 7 * q + w) v)) : wp_X8_gets (nI q) (nI w) v M K := by
  unfold wp_X8_gets
  rw [ixm, nI_clamp (by omega)]
  exact ⟨vp_in_nI hq (by decide), h⟩
theorem any_held {a b c : Int32} {M : Mem} {K : Int32 → Mem → Prop} (h : ∀ r, K r M) : wp_X8_held a b c M K := ⟨fun _ => ⟨fun _ => h _, fun _ => h _⟩, fun _ => h _⟩
theorem any_mworked {a b c : Int32} {M : Mem} {K : Int32 → Mem → Prop} (h : ∀ r, K r M) : wp_X8_workedOut a b c M K := by
  unfold wp_X8_workedOut
  repeat' (first | exact h _ | assumption | refine ⟨?_, ?_⟩ | intro _)
abbrev SW (b : Nat) : Bool := b == 85 || b == 86
theorem m_walks {w : Nat} (hw : w < 2) {a b c : Int32} {M : Mem} {K : Int32 → Mem → Prop} (hT : TO (M 80) w) (hneg : ¬ M 80 (5 + w) < 0) (h : ∀ r M1, St SW M M1 → K r M1) : wp_X8_walks (nI w) a b c M K := by
  have hT2 : ∃ z : Nat, z ≤ 50 ∧ M 80 (5 + w) = nI z ∧ RWg (fun j => M 80 (144 + 50 * w + j)) z := by
    rcases hT with e | e
    · rw [e] at hneg; exact absurd (by decide) hneg
    · exact e
  obtain ⟨z, hz, ez, g, g0, hg⟩ := hT2
  have hgk : ∀ k, k ≤ z → g k ≤ k := by
    intro k
    induction k with
    | zero => intro _; omega
    | succ k ih =>
      intro hk
      have := ih (by omega)
      rcases hg k (by omega) with ⟨v, h1, h2, h3⟩ | ⟨h1, h2, h3⟩ | ⟨v, h1, h2, h3, h4, h5, h6⟩ <;> omega
  unfold wp_X8_walks
  have eb : (144 : Int32) + 50 * nI w = nI (144 + 50 * w) := by
    rw [show (50 : Int32) = nI 50 from rfl, show (144 : Int32) = nI 144 from rfl, pk_mul, nI_add]
  have e5 : (5 : Int32) + nI w = nI (5 + w) := by rw [show (5 : Int32) = nI 5 from rfl, nI_add]
  rw [eb]
  refine loopNA (L := fun n a i M' => wp_X8_walks_L39 K (nI w) (nI (144 + 50 * w)) n a i M') (144 + 50 * w + z) (fun i a M' => 144 + 50 * w ≤ i ∧ a = nI (g (i - (144 + 50 * w))) ∧ St SW M M') ?_ (144 + 50 * w) (by omega) ⟨Nat.le_refl _, by rw [Nat.sub_self, g0]; rfl, ((St.rf.up rfl).up rfl).up rfl⟩
  intro i d M' n hi hs ih
  obtain ⟨hb, rfl, hs⟩ := hs
  obtain ⟨k, rfl⟩ : ∃ k, i = 144 + 50 * w + k := ⟨i - (144 + 50 * w), by omega⟩
  have ek : 144 + 50 * w + k - (144 + 50 * w) = k := by omega
  rw [ek]
  show wp_X8_walks_l39 K (nI w) (nI (144 + 50 * w)) (wp_X8_walks_L39 K (nI w) (nI (144 + 50 * w)) n) (nI (g k)) (nI (144 + 50 * w + k)) M'
  unfold wp_X8_walks_l39
  have er : M' 80 = M 80 := hs 80 rfl
  rw [e5, nI_clamp (by omega), nI_clamp (by omega), er, ez, nI_add]
  refine ⟨vp_in_nI (by omega) (by decide), fun _ => h _ _ hs, fun q => ?_⟩
  have hkz : 144 + 50 * w + k < 144 + 50 * w + z := lt_of_nI q (by omega) (by omega)
  refine ⟨vp_in_nI (by omega) (by decide), ?_⟩
  have hgk1 := hgk k (by omega)
  have hgk2 := hgk (k + 1) (by omega)
  have next : ∀ x y, wp_X8_walks_L39 K (nI w) (nI (144 + 50 * w)) n (nI (g (k + 1))) (nI (144 + 50 * w + k + 1)) (up M' 85 x y) := fun x y => ih _ _ hkz ⟨by omega, by rw [show 144 + 50 * w + k + 1 - (144 + 50 * w) = k + 1 by omega], hs.up rfl⟩
  have hst := hg k (by omega)
  simp only at hst
  rw [nI_1]
  rcases hst with ⟨v, h1, h2, h3⟩ | ⟨h1, h2, h3⟩ | ⟨v, h1, h2, h3, h4, h5, h6⟩
  · rw [h2]
    refine ⟨fun q2 => absurd (show nI 20000 ≤ nI v from q2) (nI_ge (by omega) (by omega)), fun _ => ⟨fun q3 => ?_, fun q3 => ?_⟩⟩
    · have hv : 10000 ≤ v := le_of_nI (a := 10000) q3 (by omega) (by omega)
      have e0 : nI v - 10000 = nI (v - 10000) := by rw [show (10000 : Int32) = nI 10000 from rfl, pk_sub hv]
      rw [e0, nI_1, ← h3]
      exact ⟨vp_in_nI (by omega) (by decide), vp_in_nI (by omega) (by decide), next _ _⟩
    · rw [nI_1, ← h3]
      exact ⟨vp_in_nI (by omega) (by decide), next _ _⟩
  · rw [h1]
    refine ⟨fun _ => ⟨fun q3 => absurd rfl q3, fun _ => ?_⟩, fun q3 => absurd (nI_le (a := 20000) (b := 20033) (by omega) (by omega)) q3⟩
    obtain ⟨e, he⟩ : ∃ e, g k = e + 1 := ⟨g k - 1, by omega⟩
    rw [he, nI_pred]
    have hv : vp_in (nI e) 50 := vp_in_nI (by omega) (by decide)
    rw [← he, ← h3]
    exact ⟨hv, fun _ => ⟨hv, next _ _⟩, fun _ => ⟨hv, next _ _⟩⟩
  · rw [h4]
    refine ⟨fun _ => ⟨fun _ => ?_, fun q3 => absurd ((nI_eq (by omega) (by omega)).mp (show nI v = nI 20033 from q3)) h2⟩, fun q3 => absurd (nI_le (a := 20000) (b := v) h1 (by omega)) q3⟩
    obtain ⟨e, he⟩ : ∃ e, g k = e + 2 := ⟨g k - 2, by omega⟩
    have he1 : g (k + 1) = e + 1 := by omega
    rw [he, nI_dec, nI_pred]
    rw [he1] at next
    exact ⟨vp_in_nI (by omega) (by decide), vp_in_nI (by omega) (by decide), any_mworked (fun r => ⟨vp_in_nI (by omega) (by decide), next _ _⟩)⟩
theorem m_lawOf {w : Nat} (hw : w < 2) {a b c : Int32} {M : Mem} {K : Int32 → Mem → Prop} (hT : TO (M 80) w) (h : ∀ r M1, St SW M M1 → K r M1) : wp_X8_lawOf (nI w) a b c M K := by
  unfold wp_X8_lawOf
  have e5 : (5 : Int32) + nI w = nI (5 + w) := by rw [show (5 : Int32) = nI 5 from rfl, nI_add]
  rw [e5, nI_clamp (by omega)]
  exact ⟨vp_in_nI (by omega) (by decide), fun _ => ⟨fun _ => any_held (fun r => h _ _ St.rf), fun _ => any_held (fun r => h _ _ St.rf)⟩, fun q => m_walks hw hT q (fun r M1 h1 => any_held (fun r2 => h _ _ h1))⟩
/-- days of the model -/
abbrev SM8 (b : Nat) : Bool := b == 80 || b == 85 || b == 86
def DM (d : Nat) (M M1 : Mem) : Prop := St SM8 M M1 ∧ (∀ k, VOL k = false → M1 80 k = M 80 k) ∧ M1 80 0 = M 80 0 + nI d
theorem DM.rf {M : Mem} : DM 0 M M := ⟨St.rf, fun _ _ => rfl, (Int32.add_zero _).symm⟩
theorem DM.tr {d d2 : Nat} {M M1 M2 : Mem} (h : DM d M M1) (h2 : DM d2 M1 M2) : DM (d + d2) M M2 := ⟨h.1.tr h2.1, fun k hk => (h2.2.1 k hk).trans (h.2.1 k hk), by rw [h2.2.2, h.2.2, Int32.add_assoc, nI_add]⟩
theorem DM.w {d : Nat} {M M1 M2 : Mem} (h : DM d M M1) (hs : St SW M1 M2) : DM d M M2 := by
  have e : M2 80 = M1 80 := hs 80 rfl
  exact ⟨h.1.tr (hs.w (by simp <;> omega)), fun k hk => by rw [e]; exact h.2.1 k hk, by rw [e]; exact h.2.2⟩
theorem DM.up {d k : Nat} {x : Int32} {M M1 : Mem} (h : DM d M M1) (hv : VOL k = true) (h0 : k ≠ 0) : DM d M (up M1 80 k x) := ⟨h.1.up rfl, fun j hj => by rw [up_slot _ (fun e => by rw [e, hv] at hj; cases hj)]; exact h.2.1 j hj, by rw [up_slot _ (Ne.symm h0)]; exact h.2.2⟩
theorem DM.ro {n d : Nat} {M M1 : Mem} (h : DM d M M1) (hR : RO n (M 80)) : RO n (M1 80) := hR.keep h.2.1
theorem vol_one {q w : Nat} (hq : q < 9) (hw : w = 3 ∨ w = 5 ∨ w = 6) : VOL (11 + 7 * q + w) = true := by simp [VOL]; omega
theorem any_mgains {n q : Nat} (hq : q < 9) {M : Mem} {K : Int32 → Mem → Prop} (hR : RO n (M 80)) (h : ∀ r M1, St SW M M1 → K r M1) : wp_X8_gains (nI q) M K := by
  unfold wp_X8_gains
  refine m_its 1 (by omega) (m_its 3 (by omega) (m_its 6 (by omega) (m_lawOf (w := 0) (by omega) hR.2.2.2.1 (fun r M1 h1 => m_its 0 (by omega) ?_))))
  have hk : ∀ r, K r M1 := fun r => h _ _ h1
  exact ⟨fun _ => hk _, fun _ => ⟨fun _ => hk _, fun _ => ⟨fun _ => hk _, fun _ => ⟨fun _ => m_its 6 (by omega) (any_held (fun _ => hk _)), fun _ => ⟨fun _ => ⟨fun _ => hk _, fun _ => hk _⟩, fun _ => ⟨fun _ => hk _, fun _ => hk _⟩⟩⟩⟩⟩⟩
theorem any_mneeds {q : Nat} (hq : q < 9) {M : Mem} {K : Int32 → Mem → Prop} (h : ∀ r, K r M) : wp_X8_needs (nI q) M K := by
  unfold wp_X8_needs
  refine m_its 1 (by omega) (m_its 0 (by omega) ?_)
  repeat' (first | exact h _ | assumption | refine ⟨?_, ?_⟩ | intro _)
theorem any_mdulls {q : Nat} (hq : q < 9) {M : Mem} {K : Int32 → Mem → Prop} (h : ∀ r, K r M) : wp_X8_dulls (nI q) M K := by
  unfold wp_X8_dulls
  refine m_its 0 (by omega) ?_
  repeat' (first | exact h _ | assumption | refine ⟨?_, ?_⟩ | intro _)
theorem m_isOver {q : Nat} (hq : q < 9) {M : Mem} {K : Int32 → Mem → Prop} (h1 : M 80 (16 + 7 * q) = 1 → K 1 M) (h0 : ¬ M 80 (16 + 7 * q) = 1 → K 0 M) : wp_X8_isOver (nI q) M K := by
  unfold wp_X8_isOver
  refine m_its 5 (by omega) ?_
  rw [show 11 + 7 * q + 5 = 16 + 7 * q by omega]
  exact ⟨h0, h1⟩
theorem m_isLoose {n q : Nat} (hq : q < n) {M : Mem} {K : Int32 → Mem → Prop} (hR : RO n (M 80)) (h : ∀ r, K r M) : wp_X8_isLoose (nI q) M K := by
  have hn := hR.1
  unfold wp_X8_isLoose
  refine m_its 4 (by omega) ⟨fun _ => h _, fun q2 => m_its 4 (by omega) ?_⟩
  have hh := hR.2.2.1 q hq
  rw [show 15 + 7 * q = 11 + 7 * q + 4 by omega] at hh
  rcases hh with e | ⟨j, hj, e⟩
  · exact absurd e q2
  · rw [e]
    exact m_isOver hj (fun _ => ⟨fun _ => h _, fun _ => h _⟩) (fun _ => ⟨fun _ => h _, fun _ => h _⟩)
theorem m_grinds {n : Nat} {M : Mem} {K : Mem → Prop} (hR : RO n (M 80)) (hk : ∀ M1, DM 0 M M1 → K M1) : wp_X8_grindsAll M K := by
  have hn := hR.1
  unfold wp_X8_grindsAll
  refine loopN (L := fun k i M' => wp_X8_grindsAll_L2 K k i M') n (fun _ M' => DM 0 M M') ?_ 0 (Nat.zero_le _) DM.rf
  intro i M' k hi hs ih
  show wp_X8_grindsAll_l2 K (wp_X8_grindsAll_L2 K k) (nI i) M'
  unfold wp_X8_grindsAll_l2
  have hR1 := hs.ro hR
  rw [hR1.2.1]
  refine ⟨fun _ => hk _ hs, fun q => ?_⟩
  have hi2 : i < n := lt_of_nI q (by omega) (by omega)
  rw [nI_1]
  have nx : ∀ M2, DM 0 M M2 → wp_X8_grindsAll_L2 K k (nI (i + 1)) M2 := fun M2 h2 => ih _ hi2 h2
  refine m_isOver (by omega) (fun _ => b1b (nx _ hs)) (fun _ => b0b (m_its 2 (by omega) ⟨fun _ => nx _ hs, fun _ => m_its 3 (by omega) (any_mgains (by omega) hR1 (fun r M2 h2 => any_held (fun r2 => m_gets 3 (by omega) (any_held (fun r3 => nx _ (((hs.w h2).up (vol_one (by omega) (by omega)) (by omega)).up rfl (by omega)))))))⟩))
theorem m_goesOn {n q : Nat} (hq : q < n) {M M0 : Mem} {K : Mem → Prop} (hR : RO n (M0 80)) (hs : DM 0 M0 M) (hk : ∀ M1, DM 0 M0 M1 → K M1) : wp_X8_goesOn (nI q) M K := by
  have hn := hR.1
  have hR1 := hs.ro hR
  unfold wp_X8_goesOn
  have hb : wp_X8_goesOn_b32 K (nI q) M := by
    unfold wp_X8_goesOn_b32
    refine m_its 3 (by omega) (m_its 6 (by omega) (m_its 1 (by omega) (m_lawOf (w := 1) (by omega) hR1.2.2.2.2 (fun r M1 h1 => any_held (fun r2 => ?_)))))
    have h2 : DM 0 M0 (up M1 80 9 r2) := (hs.w h1).up rfl (by omega)
    refine m_its 3 (by omega) (any_mdulls (by omega) (fun r3 => any_held (fun r4 => m_gets 3 (by omega) (m_its 6 (by omega) (any_held (fun r5 => m_gets 6 (by omega) (hk _ ?_)))))))
    exact (h2.up (vol_one (by omega) (by omega)) (by omega)).up (vol_one (by omega) (by omega)) (by omega)
  refine m_its 3 (by omega) (any_mneeds (by omega) (fun r => ⟨fun _ => hb, fun _ => m_isLoose hq hR1 (fun r2 => ⟨fun _ => hb, fun _ => m_gets 5 (by omega) (hk _ (hs.up (vol_one (by omega) (by omega)) (by omega)))⟩)⟩))
theorem m_day {n : Nat} {w : Int32} {M : Mem} {K : Mem → Prop} (hR : RO n (M 80)) (hk : ∀ M1, DM 1 M M1 → K M1) : wp_X8_oneDay w M K := by
  have hn := hR.1
  have hloop : ∀ M0, DM 0 M M0 → ∃ k, wp_X8_oneDay_L10 K k 0 M0 := by
    intro M0 h0
    refine loopN (L := fun k i M' => wp_X8_oneDay_L10 K k i M') n (fun _ M' => DM 0 M M') ?_ 0 (Nat.zero_le _) h0
    intro i M' k hi hs ih
    show wp_X8_oneDay_l10 K (wp_X8_oneDay_L10 K k) (nI i) M'
    unfold wp_X8_oneDay_l10
    have hR1 := hs.ro hR
    rw [hR1.2.1]
    refine ⟨fun _ => ?_, fun q => ?_⟩
    · rintro _ rfl
      have h2 : DM 0 M (up M' 80 7 (((M' 80 7) + (M' 80 8)) - ((M' 80 7) + (M' 80 8)) / 10 * 10)) := hs.up rfl (by omega)
      refine hk _ ⟨h2.1.up rfl, fun j hj => ?_, ?_⟩
      · rw [up_slot _ (fun e => by rw [e] at hj; cases hj)]; exact h2.2.1 j hj
      · rw [up_same, h2.2.2, Int32.add_assoc]; rfl
    · have hi2 : i < n := lt_of_nI q (by omega) (by omega)
      rw [nI_1]
      exact m_isOver (by omega) (fun _ => b1b (ih _ hi2 hs)) (fun _ => b0b (m_goesOn hi2 hR hs (fun M2 h2 => ih _ hi2 h2)))
  unfold wp_X8_oneDay
  exact ⟨fun _ => hloop _ DM.rf, fun _ => m_grinds hR hloop⟩
