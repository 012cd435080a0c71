theorem bits_lt {x : Int32} (h : ¬ x = 0) : (x &&& (x - 1)).toBitVec.toNat < x.toBitVec.toNat := by
  have hx : x.toBitVec.toNat ≠ 0 := fun e => h (by
    have : x.toBitVec = 0#32 := BitVec.eq_of_toNat_eq (by simpa using e)
    exact Int32.toBitVec_inj.mp this)
  have h1 : (x &&& (x - 1)).toBitVec.toNat ≤ (x - 1).toBitVec.toNat := by
    rw [Int32.toBitVec_and, BitVec.toNat_and]; exact Nat.and_le_right
  have h2 : (x - 1).toBitVec.toNat < x.toBitVec.toNat := by
    have hl : x.toBitVec.toNat < 2 ^ 32 := x.toBitVec.isLt
    have e1 : (1 : Int32).toBitVec.toNat = 1 := rfl
    rw [Int32.toBitVec_sub, BitVec.toNat_sub, e1]
    omega
  omega
theorem any_bits {v : Int32} {M : Mem} {K : Int32 → Mem → Prop} (h : ∀ r, K r M) : wp_X8_bits v M K := by
  unfold wp_X8_bits
  refine loopW (σ := Int32 × Int32 × Mem) (L := fun n s => wp_X8_bits_L4 K n s.1 s.2.1 s.2.2) (I := fun k s => k = s.2.1.toBitVec.toNat ∧ s.2.2 = M) ?_ (k := v.toBitVec.toNat) (s := (0, v, M)) ⟨rfl, rfl⟩
  intro k s n hI ih
  obtain ⟨rfl, hM⟩ := hI
  show wp_X8_bits_l4 K (wp_X8_bits_L4 K n) s.1 s.2.1 s.2.2
  unfold wp_X8_bits_l4
  rw [hM]
  exact ⟨fun _ => h _, fun q => ih _ (s.1 + 1, s.2.1 &&& (s.2.1 - 1), M) (bits_lt q) ⟨rfl, rfl⟩⟩
theorem m_move {x1 x2 : Nat} {M : Mem} {K : Mem → Prop} (h1 : ln x1 = 244) (h2 : ln x2 = 244) (hne : x1 ≠ x2) (hk : ∀ M1, St (fun b => b == x2) M M1 → (∀ k, k < 244 → M1 x2 k = M x1 k) → (∀ k, 244 ≤ k → M1 x2 k = M x2 k) → K M1) : wp_X8_moveAll x1 x2 M K := by
  unfold wp_X8_moveAll
  refine loopN (L := fun n i M' => wp_X8_moveAll_L2 K x1 x2 n i M') 244 (fun i M' => St (fun b => b == x2) M M' ∧ (∀ k, k < i → M' x2 k = M x1 k) ∧ (∀ k, 244 ≤ k → M' x2 k = M x2 k)) ?_ 0 (Nat.zero_le _) ⟨St.rf, fun k hk => by omega, fun _ _ => rfl⟩
  intro i M' n hi hs ih
  obtain ⟨hs, hl, hg⟩ := hs
  show wp_X8_moveAll_l2 K x1 x2 (wp_X8_moveAll_L2 K x1 x2 n) (nI i) M'
  unfold wp_X8_moveAll_l2
  rw [h1, h2]
  refine ⟨fun q => hk _ hs (fun k hk => hl k (by have := le_of_nI (a := 244) q (by omega) (by omega); omega)) hg, fun q => ?_⟩
  have hi2 : i < 244 := lt_of_nI (a := 244) q (by omega) (by omega)
  rw [nI_1, nI_clamp (by omega)]
  refine ⟨vp_in_nI hi2 (by decide), vp_in_nI hi2 (by decide), ih _ hi2 ⟨hs.up (by simp), fun k hk => ?_, fun k hk => ?_⟩⟩
  · by_cases e : k = i
    · subst e; rw [up_same, hs x1 (by simp [hne])]
    · rw [up_slot _ e]; exact hl k (by omega)
  · rw [up_slot _ (by omega)]; exact hg k hk
/-- rows that the model's thinking changes -/
abbrev SMx (b : Nat) : Bool := b == 82 || b == 83 || b == 85 || b == 86
abbrev SMt (b : Nat) : Bool := b == 80 || b == 82 || b == 83 || b == 85 || b == 86
/-- the row is tried ahead, what was is in 'tried' -/
def TT (M0 M : Mem) : Prop := St SMt M0 M ∧ (∀ k, k < 244 → M 82 k = M0 80 k) ∧ (∀ k, VOL k = false → M 80 k = M0 80 k)
theorem TT.ro {n : Nat} {M0 M : Mem} (h : TT M0 M) (hR : RO n (M0 80)) : RO n (M 80) := hR.keep h.2.2
theorem TT.up {k : Nat} {x : Int32} {M0 M : Mem} (h : TT M0 M) (hv : VOL k = true) : TT M0 (up M 80 k x) := ⟨h.1.up rfl, fun j hj => by rw [up_cell (by decide)]; exact h.2.1 j hj, fun j hj => by rw [up_slot _ (fun e => by rw [e, hv] at hj; cases hj)]; exact h.2.2 j hj⟩
theorem TT.day {d : Nat} {M0 M M1 : Mem} (h : TT M0 M) (hd : DM d M M1) : TT M0 M1 := ⟨h.1.tr (hd.1.w (by simp <;> omega)), fun k hk => by rw [hd.1 82 rfl]; exact h.2.1 k hk, fun k hk => (hd.2.1 k hk).trans (h.2.2 k hk)⟩
theorem t_go {M0 M : Mem} {K : Mem → Prop} (hs : St SMx M0 M) (hk : ∀ M1, TT M0 M1 → K M1) : wp_X8_moveAll 80 82 M K :=
  m_move rfl rfl (by decide) (fun M1 h1 h2 h3 => hk _ ⟨(hs.w (by simp <;> omega)).tr (h1.w (by simp <;> omega)), fun k hk => by rw [h2 k hk, hs 80 rfl], fun k _ => by rw [h1 80 rfl, hs 80 rfl]⟩)
theorem t_go2 {M0 M : Mem} {K : Mem → Prop} (hs : St SMx M0 M) (hk : ∀ M1, TT M0 M1 → St SMx M0 M1 → K M1) : wp_X8_moveAll 80 82 M K :=
  m_move rfl rfl (by decide) (fun M1 h1 h2 h3 => hk _ ⟨(hs.w (by simp <;> omega)).tr (h1.w (by simp <;> omega)), fun k hk => by rw [h2 k hk, hs 80 rfl], fun k _ => by rw [h1 80 rfl, hs 80 rfl]⟩ (hs.tr (h1.w (by simp <;> omega))))
theorem t_back {M0 M : Mem} {K : Mem → Prop} (h : TT M0 M) (hk : ∀ M1, St SMx M0 M1 → K M1) : wp_X8_moveAll 82 80 M K :=
  m_move rfl rfl (by decide) (fun M1 h1 h2 h3 => hk _ (fun b hb => by
    by_cases e : b = 80
    · subst e
      funext k
      rcases Nat.lt_or_ge k 244 with g | g
      · rw [h2 k g, h.2.1 k g]
      · rw [h3 k g, h.2.2 k (by simp [VOL]; omega)]
    · rw [h1 b (by simp [e]), h.1 b (by simp at hb ⊢; omega)]))
/-- back, with tried as it was -/
theorem t_back2 {M0 M : Mem} {K : Mem → Prop} (h : TT M0 M) (hk : ∀ M1, St SMx M0 M1 → TT M0 M1 → K M1) : wp_X8_moveAll 82 80 M K := by
  refine m_move rfl rfl (by decide) (fun M1 h1 h2 h3 => ?_)
  have hs : St SMx M0 M1 := fun b hb => by
    by_cases e : b = 80
    · subst e
      funext k
      rcases Nat.lt_or_ge k 244 with g | g
      · rw [h2 k g, h.2.1 k g]
      · rw [h3 k g, h.2.2 k (by simp [VOL]; omega)]
    · rw [h1 b (by simp [e]), h.1 b (by simp at hb ⊢; omega)]
  exact hk _ hs ⟨hs.w (by simp <;> omega), fun k hk => by rw [h1 82 rfl]; exact h.2.1 k hk, fun k _ => by rw [hs 80 rfl]⟩
theorem t_day {n : Nat} {w : Int32} {M0 M : Mem} {K : Mem → Prop} (hR : RO n (M0 80)) (h : TT M0 M) (hk : ∀ M1, TT M0 M1 → K M1) : wp_X8_oneDay w M K := m_day (h.ro hR) (fun M1 h1 => hk _ (h.day h1))
theorem t_passes {n N : Nat} (hN : N ≤ 60) {M0 M : Mem} {K : Mem → Prop} (hR : RO n (M0 80)) (h : TT M0 M) (hk : ∀ M1, TT M0 M1 → K M1) : wp_X8_passes (nI N) M K := by
  unfold wp_X8_passes
  refine loopN (L := fun k i M' => wp_X8_passes_L2 K (nI N) k i M') N (fun _ M' => TT M0 M') ?_ 0 (Nat.zero_le _) h
  intro i M' k hi hs ih
  show wp_X8_passes_l2 K (nI N) (wp_X8_passes_L2 K (nI N) k) (nI i) M'
  unfold wp_X8_passes_l2
  refine ⟨fun _ => hk _ hs, fun q => ?_⟩
  rw [nI_1]
  exact t_day hR hs (fun M1 h1 => ih _ (lt_of_nI q (by omega) (by omega)) h1)
theorem any_overSet {n : Nat} {M : Mem} {K : Int32 → Mem → Prop} (hn : n ≤ 9) (hm : M 80 2 = nI n) (h : ∀ r, K r M) : wp_X8_overSet M K := by
  unfold wp_X8_overSet
  refine loopNA (L := fun k a i M' => wp_X8_overSet_L4 K k a i M') n (fun _ _ M' => M' = M) ?_ 0 (Nat.zero_le _) rfl
  intro i a M' k hi e ih
  subst e
  show wp_X8_overSet_l4 K (wp_X8_overSet_L4 K k) a (nI i) M'
  unfold wp_X8_overSet_l4
  rw [hm]
  refine ⟨fun _ => h _, fun q => ?_⟩
  have hi2 : i < n := lt_of_nI q (by omega) (by omega)
  rw [nI_1]
  exact m_its 5 (by omega) (ih _ _ hi2 rfl)
theorem t_overBehind {n N : Nat} (hN : N ≤ 60) {M : Mem} {K : Int32 → Mem → Prop} (hR : RO n (M 80)) (hk : ∀ r M1, St SMx M M1 → K r M1) : wp_X8_overBehind (nI N) M K := by
  unfold wp_X8_overBehind
  exact t_go St.rf (fun M1 h1 => t_passes hN hR h1 (fun M2 h2 => any_overSet hR.1 (h2.ro hR).2.1 (fun r => t_back h2 (fun M3 h3 => hk _ _ h3))))
/-- the row is as it was but for a place that a day may change -/
def RX (a : Nat) (M0 M : Mem) : Prop := St SMt M0 M ∧ ∀ k, k ≠ a → M 80 k = M0 80 k
theorem RX.ro {n a : Nat} {M0 M : Mem} (ha : VOL a = true) (h : RX a M0 M) (hR : RO n (M0 80)) : RO n (M 80) := hR.keep (fun k hk => h.2 k (fun e => by rw [e, ha] at hk; cases hk))
theorem RX.put {a : Nat} {x : Int32} {M0 M : Mem} (h : RX a M0 M) : RX a M0 (up M 80 a x) := ⟨h.1.up rfl, fun k hk => by rw [up_slot _ hk]; exact h.2 k hk⟩
theorem RX.th {a : Nat} {M0 M M1 : Mem} (h : RX a M0 M) (hs : St SMx M M1) : RX a M0 M1 := ⟨h.1.tr (hs.w (by simp <;> omega)), fun k hk => by rw [hs 80 rfl]; exact h.2 k hk⟩
theorem RX.back {a : Nat} {M0 M : Mem} (h : RX a M0 M) : St SMx M0 (up M 80 a (M0 80 a)) := fun b hb => by
  by_cases e : b = 80
  · subst e
    funext k
    by_cases e2 : k = a
    · subst e2; rw [up_same]
    · rw [up_slot _ e2]; exact h.2 k e2
  · rw [up_o b e]; exact h.1 b (by simp at hb ⊢; omega)
theorem RX.of {a : Nat} {M0 M : Mem} (hs : St SMx M0 M) : RX a M0 M := ⟨hs.w (by simp <;> omega), fun k _ => by rw [hs 80 rfl]⟩
theorem q8 {n : Nat} {q : Int32} {M : Mem} (hn : n ≤ 9) (hm : M 80 2 = nI n) {K : Int32 → Mem → Prop} (h1 : ∀ j : Nat, j < n → q = nI j → K 1 M) (h0 : ¬ (0 ≤ q.toInt ∧ q.toInt < n) → K 0 M) : wp_X8_isQuarrel q M K := by
  unfold wp_X8_isQuarrel
  rw [hm]
  refine w8 0 ((n : Int) - 1) (by decide) (nI_m1 (by omega)) (fun g1 g2 => ⟨Or.inr rfl, ?_⟩) (fun g => ⟨Or.inl rfl, h0 (by omega)⟩)
  obtain ⟨j, hj, rfl⟩ := nat_of (x := q) 8 (by omega) (by omega) (by decide)
  have := nI_toInt (n := j) (by omega)
  exact h1 j (by omega) rfl
theorem q8z {n : Nat} {q : Int32} {M : Mem} (hn : n ≤ 9) (hm : M 80 2 = nI n) {A B : Int32 → Mem → Prop} (h1 : ∀ j : Nat, j < n → q = nI j → B 1 M) (h0 : ¬ (0 ≤ q.toInt ∧ q.toInt < n) → A 0 M) : wp_X8_isQuarrel q M (fun r N => (r = 0 → A r N) ∧ (¬ r = 0 → B r N)) := q8 hn hm (fun j g1 g2 => b1a (h1 j g1 g2)) (fun g => b0a (h0 g))
theorem q8n {n : Nat} {q : Int32} {M : Mem} (hn : n ≤ 9) (hm : M 80 2 = nI n) {A B : Int32 → Mem → Prop} (h1 : ∀ j : Nat, j < n → q = nI j → B 1 M) (h0 : ¬ (0 ≤ q.toInt ∧ q.toInt < n) → A 0 M) : wp_X8_isQuarrel q M (fun r N => (¬ r = 0 → B r N) ∧ (r = 0 → A r N)) := q8 hn hm (fun j g1 g2 => b1b (h1 j g1 g2)) (fun g => b0b (h0 g))
theorem e8b {M0 M : Mem} {K : Int32 → Mem → Prop} (hs : St SMx M0 M) (hk : ∀ r M1, St SMx M0 M1 → K r M1) : wp_X8_errs (-1000000001) M K := e8 1 (by decide) (by decide) (hk _ _ (hs.up rfl))
theorem e8n {M0 M : Mem} {K : Int32 → Mem → Prop} (hs : St SMx M0 M) (hk : ∀ r M1, St SMx M0 M1 → K r M1) : wp_X8_errs (-1000000002) M K := e8 2 (by decide) (by decide) (hk _ _ (hs.up rfl))
section MP
variable {n : Nat} {M : Mem} {K : Int32 → Mem → Prop}
theorem m_ended {a : Int32} (hR : RO n (M 80)) (hk : ∀ r M1, St SMx M M1 → K r M1) : wp_X8_ended a M K := by
  unfold wp_X8_ended
  refine w8z 0 60 (by decide) (by decide) (fun g1 g2 => ?_) (fun _ => e8b St.rf hk)
  obtain ⟨N, hN, rfl⟩ := nat_of 60 g1 g2 (by decide)
  exact t_overBehind hN hR hk
theorem m_fee {a : Int32} (hR : RO n (M 80)) (hk : ∀ r M1, St SMx M M1 → K r M1) : wp_X8_fee a M K := by
  unfold wp_X8_fee
  refine w8n 0 60 (by decide) (by decide) (fun g1 g2 => ?_) (fun _ => e8b St.rf hk)
  obtain ⟨N, hN, rfl⟩ := nat_of 60 g1 g2 (by decide)
  exact t_go St.rf (fun M1 h1 => t_passes hN hR h1 (fun M2 h2 => t_back h2 (fun M3 h3 => hk _ _ h3)))
theorem m_then {a b c : Int32} (hR : RO n (M 80)) (hk : ∀ r M1, St SMx M M1 → K r M1) : wp_X8_then a b c M K := by
  have hn := hR.1
  unfold wp_X8_then
  refine w8z 0 60 (by decide) (by decide) (fun g1 g2 => ?_) (fun _ => e8b St.rf hk)
  obtain ⟨N, hN, rfl⟩ := nat_of 60 g1 g2 (by decide)
  refine q8z hR.1 hR.2.1 (fun j hj ej => ?_) (fun _ => e8b St.rf hk)
  subst ej
  refine w8n 0 2 (by decide) (by decide) (fun g1 g2 => ?_) (fun _ => e8b St.rf hk)
  exact t_go St.rf (fun M1 h1 => t_passes hN hR h1 (fun M2 h2 => ⟨fun _ => ⟨fun _ => m_its 6 (by omega) (t_back h2 (fun M3 h3 => hk _ _ h3)), fun _ => m_its 5 (by omega) (t_back h2 (fun M3 h3 => hk _ _ h3))⟩, fun _ => m_its 3 (by omega) (t_back h2 (fun M3 h3 => hk _ _ h3))⟩))
theorem m_when {a : Int32} (hR : RO n (M 80)) (hk : ∀ r M1, St SMx M M1 → K r M1) : wp_X8_when a M K := by
  have hn := hR.1
  unfold wp_X8_when
  refine q8n hR.1 hR.2.1 (fun j hj ej => ?_) (fun _ => e8b St.rf hk)
  subst ej
  refine t_go St.rf (fun M1 h1 => ?_)
  refine loopN (L := fun k i M' => wp_X8_when_L29 K (nI j) k i M') 61 (fun _ M' => TT M M') ?_ 0 (Nat.zero_le _) h1
  intro i M' k hi hs ih
  show wp_X8_when_l29 K (nI j) (wp_X8_when_L29 K (nI j) k) (nI i) M'
  unfold wp_X8_when_l29
  refine ⟨fun _ => t_back hs (fun M3 h3 => ⟨fun _ => hk _ _ h3, fun _ => e8n h3 hk⟩), fun q => ?_⟩
  have hi2 : i < 61 := by
    rcases Nat.lt_or_ge i 61 with g | g
    · exact g
    · exact absurd (show nI 60 < nI i from nI_lt (by omega) (by omega)) q
  rw [nI_1]
  exact m_isOver (by omega) (fun _ => b1b (t_back hs (fun M3 h3 => ⟨fun _ => hk _ _ h3, fun _ => e8n h3 hk⟩))) (fun _ => b0b (t_day hR hs (fun M2 h2 => ih _ hi2 h2)))
theorem m_most {at_ N : Nat} {c : Int32} (ha : VOL at_ = true) (hN : N ≤ 60) (hR : RO n (M 80)) (hk : ∀ r M1, St SMx M M1 → K r M1) : wp_X8_mostOver (nI at_) (nI N) c M K := by
  have ha2 : at_ < 244 := by
    rcases Nat.lt_or_ge at_ 244 with g | g
    · exact g
    · simp [VOL] at ha; omega
  have hv : vp_in (nI at_) 244 := vp_in_nI ha2 (by decide)
  unfold wp_X8_mostOver
  refine ⟨hv, ?_⟩
  rw [nI_clamp (by omega)]
  refine loopNA (α := Int32 × Int32) (L := fun k a i M' => wp_X8_mostOver_L17 K (nI at_) (nI N) c (M 80 at_) k a.1 a.2 i M') 10 (fun _ _ M' => RX at_ M M') ?_ 0 (a := (0, -1)) (Nat.zero_le _) (RX.of St.rf)
  intro i a M' k hi hs ih
  show wp_X8_mostOver_l17 K (nI at_) (nI N) c (M 80 at_) (wp_X8_mostOver_L17 K (nI at_) (nI N) c (M 80 at_) k) a.1 a.2 (nI i) M'
  unfold wp_X8_mostOver_l17
  rw [nI_clamp (by omega)]
  refine ⟨fun _ => ⟨hv, fun _ => hk _ _ hs.back, fun _ => hk _ _ hs.back⟩, fun q => ⟨hv, ?_⟩⟩
  have hi2 : i < 10 := lt_of_nI (a := 10) q (by omega) (by omega)
  have hs2 : RX at_ M (up M' 80 at_ (nI i)) := hs.put
  rw [nI_1]
  refine t_overBehind hN (hs2.ro ha hR) (fun r M1 h1 => any_bits (fun r2 => ?_))
  have h3 := hs2.th h1
  have nx : ∀ x y, wp_X8_mostOver_L17 K (nI at_) (nI N) c (M 80 at_) k x y (nI (i + 1)) M1 := fun x y => ih (x, y) _ hi2 h3
  exact ⟨fun _ => ⟨fun _ => nx _ _, fun _ => nx _ _⟩, fun _ => ⟨fun _ => nx _ _, fun _ => nx _ _⟩⟩
theorem m_start {a b : Int32} (hR : RO n (M 80)) (hk : ∀ r M1, St SMx M M1 → K r M1) : wp_X8_start a b M K := by
  unfold wp_X8_start
  refine w8z 0 60 (by decide) (by decide) (fun g1 g2 => ?_) (fun _ => e8b St.rf hk)
  obtain ⟨N, hN, rfl⟩ := nat_of 60 g1 g2 (by decide)
  exact w8z 0 1 (by decide) (by decide) (fun g1 g2 => m_most (at_ := 7) rfl hN hR hk) (fun _ => e8b St.rf hk)
theorem m_pace {a b : Int32} (hR : RO n (M 80)) (hk : ∀ r M1, St SMx M M1 → K r M1) : wp_X8_pace a b M K := by
  unfold wp_X8_pace
  refine w8z 0 60 (by decide) (by decide) (fun g1 g2 => ?_) (fun _ => e8b St.rf hk)
  obtain ⟨N, hN, rfl⟩ := nat_of 60 g1 g2 (by decide)
  exact w8z 0 1 (by decide) (by decide) (fun g1 g2 => m_most (at_ := 8) rfl hN hR hk) (fun _ => e8b St.rf hk)
theorem m_isOverBy {j N : Nat} {c : Int32} (hj : j < n) (hN : N ≤ 60) (hR : RO n (M 80)) (hk : ∀ r M1, St SMx M M1 → K r M1) : wp_X8_isOverBy (nI j) (nI N) c M K := by
  have hn := hR.1
  unfold wp_X8_isOverBy
  refine t_go St.rf (fun M1 h1 => ?_)
  refine loopN (L := fun k i M' => wp_X8_isOverBy_L15 K (nI j) (nI N) c k i M') n (fun _ M' => TT M M') ?_ 0 (Nat.zero_le _) h1
  intro i M' k hi hs ih
  show wp_X8_isOverBy_l15 K (nI j) (nI N) c (wp_X8_isOverBy_L15 K (nI j) (nI N) c k) (nI i) M'
  unfold wp_X8_isOverBy_l15
  rw [(hs.ro hR).2.1]
  refine ⟨fun _ => t_passes hN hR hs (fun M2 h2 => m_isOver (by omega) (fun _ => t_back h2 (fun M3 h3 => ⟨Or.inr rfl, hk _ _ h3⟩)) (fun _ => t_back h2 (fun M3 h3 => ⟨Or.inl rfl, hk _ _ h3⟩))), fun q => ?_⟩
  have hi2 : i < n := lt_of_nI q (by omega) (by omega)
  rw [nI_1]
  exact ⟨fun _ => m_its 3 (by omega) (m_gets 3 (by omega) (ih _ hi2 (hs.up (vol_one (by omega) (by omega))))), fun _ => m_gets 3 (by omega) (ih _ hi2 (hs.up (vol_one (by omega) (by omega))))⟩
theorem shl_n {n : Nat} (hn : n ≤ 9) : (1 : Int32) <<< (nI n &&& 31) = nI (2 ^ n) := by
  rcases (by omega : n = 0 ∨ n = 1 ∨ n = 2 ∨ n = 3 ∨ n = 4 ∨ n = 5 ∨ n = 6 ∨ n = 7 ∨ n = 8 ∨ n = 9) with rfl | rfl | rfl | rfl | rfl | rfl | rfl | rfl | rfl | rfl <;> decide
theorem pow_9 {n : Nat} (hn : n ≤ 9) : 2 ^ n ≤ 512 := Nat.pow_le_pow_right (n := 2) (by omega) hn
theorem m_hand {a b : Int32} (hR : RO n (M 80)) (hk : ∀ r M1, St SMx M M1 → K r M1) : wp_X8_hand a b M K := by
  have hn := hR.1
  have hp := pow_9 hn
  unfold wp_X8_hand
  refine q8z hR.1 hR.2.1 (fun j hj ej => ?_) (fun _ => e8b St.rf hk)
  subst ej
  refine w8n 0 20 (by decide) (by decide) (fun g1 g2 => ?_) (fun _ => e8b St.rf hk)
  obtain ⟨N, hN, rfl⟩ := nat_of 20 g1 g2 (by decide)
  refine any_overSet hR.1 hR.2.1 (fun ov => ?_)
  refine loopNA (L := fun k a i M' => wp_X8_hand_L36 K (nI j) (nI N) ov k a i M') (2 ^ n) (fun _ _ M' => St SMx M M') ?_ 0 (Nat.zero_le _) St.rf
  intro i a M' k hi hs ih
  show wp_X8_hand_l36 K (nI j) (nI N) ov (wp_X8_hand_L36 K (nI j) (nI N) ov k) a (nI i) M'
  unfold wp_X8_hand_l36
  have hR1 : RO n (M' 80) := by rw [hs 80 rfl]; exact hR
  rw [hR1.2.1, shl_n hn]
  refine ⟨fun _ => ⟨fun _ => hk _ _ hs, fun _ => e8n hs hk⟩, fun q => ?_⟩
  have hi2 : i < 2 ^ n := lt_of_nI q (by omega) (by omega)
  rw [nI_1]
  have ho : wp_X8_isOverBy (nI j) (nI N) (nI i) M' (fun r M3 => (r = 0 → wp_X8_hand_L36 K (nI j) (nI N) ov k a (nI (i + 1)) M3) ∧ (¬ r = 0 → wp_X8_hand_L36 K (nI j) (nI N) ov k (nI i) (nI (i + 1)) M3)) :=
    m_isOverBy hj (by omega) hR1 (fun r M3 h3 => ⟨fun _ => ih _ _ hi2 (hs.tr h3), fun _ => ih _ _ hi2 (hs.tr h3)⟩)
  exact ⟨fun _ => ih _ _ hi2 hs, fun _ => ⟨fun _ => ho, fun _ => any_bits (fun _ => any_bits (fun _ => ⟨fun _ => ih _ _ hi2 hs, fun _ => ho⟩))⟩⟩
theorem m_first {a b : Int32} (hR : RO n (M 80)) (hk : ∀ r M1, St SMx M M1 → K r M1) : wp_X8_first a b M K := by
  have hn := hR.1
  unfold wp_X8_first
  refine w8z 0 60 (by decide) (by decide) (fun g1 g2 => ?_) (fun _ => e8b St.rf hk)
  obtain ⟨N, hN, rfl⟩ := nat_of 60 g1 g2 (by decide)
  refine w8n 0 1 (by decide) (by decide) (fun g1 g2 => ⟨fun _ => ?_, fun _ => e8n St.rf hk⟩) (fun _ => e8b St.rf hk)
  refine t_go2 St.rf (fun M1 h1 h1s => ?_)
  refine loopNA (α := Int32 × Int32) (L := fun k a i M' => wp_X8_first_L63 K (nI N) b k a.1 a.2 i M') n (fun _ _ M' => TT M M' ∧ St SMx M M') ?_ 0 (a := (0, 100000)) (Nat.zero_le _) ⟨h1, h1s⟩
  · intro i a M' k hi hs ih
    obtain ⟨hs, hs2⟩ := hs
    show wp_X8_first_l63 K (nI N) b (wp_X8_first_L63 K (nI N) b k) a.1 a.2 (nI i) M'
    unfold wp_X8_first_l63
    rw [hs.2.1 2 (by omega), hR.2.1]
    refine ⟨fun _ => ⟨fun _ => hk _ _ hs2, fun _ => hk _ _ hs2⟩, fun q => ?_⟩
    have hi2 : i < n := lt_of_nI q (by omega) (by omega)
    rw [nI_1]
    exact m_gets 5 (by omega) (t_passes hN hR (hs.up (vol_one (by omega) (by omega))) (fun M2 h2 => t_back2 h2 (fun M3 h3 h4 => by
      have nx : ∀ x y, wp_X8_first_L63 K (nI N) b k x y (nI (i + 1)) M3 := fun x y => ih (x, y) _ hi2 ⟨h4, h3⟩
      exact ⟨fun _ => ⟨fun _ => nx _ _, fun _ => nx _ _⟩, fun _ => ⟨fun _ => nx _ _, fun _ => nx _ _⟩⟩)))
theorem m_areEdges {j z : Nat} {M0 M1 : Mem} {K : Int32 → Mem → Prop} (hj : j < 4) (hz : z ≤ 40) (hn : n = z) (hR : RO n (M0 80)) (h : TT M0 M1) (hk : ∀ r M2, TT M0 M2 → K r M2) : wp_X8_areEdgesSo (nI j) M1 K := by
  have hn9 := hR.1
  unfold wp_X8_areEdgesSo
  refine t_day hR h (fun M2 h2 => ?_)
  refine loopNA (L := fun k a i M' => wp_X8_areEdgesSo_L9 K (nI j) k a i M') n (fun _ a M' => BoolOK a ∧ M' = M2) ?_ 0 (Nat.zero_le _) ⟨Or.inr rfl, rfl⟩
  intro i a M' k hi e ih
  obtain ⟨ha, rfl⟩ := e
  show wp_X8_areEdgesSo_l9 K (nI j) (wp_X8_areEdgesSo_L9 K (nI j) k) a (nI i) M'
  unfold wp_X8_areEdgesSo_l9
  rw [(h2.ro hR).2.1]
  refine ⟨fun _ => ⟨ha, hk _ _ h2⟩, fun q => ?_⟩
  have hi2 : i < n := lt_of_nI q (by omega) (by omega)
  have e4 : (40 : Int32) * nI j + nI i = nI (40 * j + i) := by rw [show (40 : Int32) = nI 40 from rfl, pk_mul, nI_add]
  rw [nI_1, e4]
  exact ⟨fun _ => ih _ _ hi2 ⟨Or.inl rfl, rfl⟩, fun _ => m_its 3 (by omega) ⟨vp_in_nI (by omega) (by decide), fun _ => ih _ _ hi2 ⟨Or.inl rfl, rfl⟩, fun _ => ih _ _ hi2 ⟨Or.inr rfl, rfl⟩⟩⟩
/-- the model's sheets: how many numbers -/
def SMc (M : Mem) : Prop := ∀ j : Nat, j < 4 → ∃ z : Nat, z ≤ 40 ∧ M 88 j = nI z
theorem s8 {q : Int32} {M : Mem} {K : Int32 → Mem → Prop} (h1 : ∀ j : Nat, j < 4 → q = nI j → K 1 M) (h0 : ¬ (0 ≤ q.toInt ∧ q.toInt ≤ 3) → K 0 M) : wp_X8_isSheet q M K := by
  unfold wp_X8_isSheet
  refine w8 0 3 (by decide) (by decide) (fun g1 g2 => ⟨Or.inr rfl, ?_⟩) (fun g => ⟨Or.inl rfl, h0 g⟩)
  obtain ⟨j, hj, rfl⟩ := nat_of 3 g1 g2 (by decide)
  exact h1 j (by omega) rfl
theorem m_sparks {a b : Int32} (hR : RO n (M 80)) (hS : SMc M) (hk : ∀ r M1, St SMx M M1 → K r M1) : wp_X8_sparks a b M K := by
  have hn := hR.1
  unfold wp_X8_sparks
  refine s8 (fun j hj ej => b1a ?_) (fun _ => b0a (e8b St.rf hk))
  subst ej
  refine w8n 0 1 (by decide) (by decide) (fun g1 g2 => ⟨vp_in_nI hj (by decide), fun _ => e8n St.rf hk, fun _ => ⟨vp_in_nI hj (by decide), fun q => ?_, fun _ => e8n St.rf hk⟩⟩) (fun _ => e8b St.rf hk)
  obtain ⟨z, hz, ez⟩ := hS j hj
  rw [nI_clamp (by omega), ez, hR.2.1] at q
  have hnz : n = z := ((nI_eq (by omega) (by omega)).mp q).symm
  refine t_go2 St.rf (fun M1 h1 h1s => ?_)
  refine loopNA (L := fun k s i M' => wp_X8_sparks_L71 K (nI j) b k s i M') 10 (fun _ _ M' => TT M M' ∧ St SMx M M') ?_ 0 (Nat.zero_le _) ⟨h1, h1s⟩
  intro i s M' k hi hs ih
  obtain ⟨hs, hs2⟩ := hs
  show wp_X8_sparks_l71 K (nI j) b (wp_X8_sparks_L71 K (nI j) b k) s (nI i) M'
  unfold wp_X8_sparks_l71
  refine ⟨fun _ => ⟨fun _ => any_bits (fun _ => hk _ _ hs2), fun _ => hk _ _ hs2⟩, fun q => ?_⟩
  have hi2 : i < 10 := lt_of_nI (a := 10) q (by omega) (by omega)
  rw [nI_1]
  exact m_areEdges hj hz hnz hR (hs.up rfl) (fun r M2 h2 => ⟨fun _ => t_back2 h2 (fun M3 h3 h4 => ih _ _ hi2 ⟨h4, h3⟩), fun _ => t_back2 h2 (fun M3 h3 h4 => ih _ _ hi2 ⟨h4, h3⟩)⟩)
theorem m_last {a : Int32} (hR : RO n (M 80)) (hk : ∀ r M1, St SMx M M1 → K r M1) : wp_X8_last a M K := by
  have hn := hR.1
  unfold wp_X8_last
  refine w8n 0 1 (by decide) (by decide) (fun g1 g2 => ?_) (fun _ => e8b St.rf hk)
  refine t_go St.rf (fun M1 h1 => any_overSet hn (h1.ro hR).2.1 (fun ov => ?_))
  refine loopNA (α := Int32 × Int32 × Int32) (L := fun k b i M' => wp_X8_last_L41 K a k b.1 b.2.1 b.2.2 i M') 61 (fun _ _ M' => TT M M') ?_ 1 (a := (-1, 0, ov)) (by omega) h1
  intro i b M' k hi hs ih
  show wp_X8_last_l41 K a (wp_X8_last_L41 K a k) b.1 b.2.1 b.2.2 (nI i) M'
  unfold wp_X8_last_l41
  refine ⟨fun _ => t_back hs (fun M3 h3 => ⟨fun _ => ⟨fun _ => hk _ _ h3, fun _ => hk _ _ h3⟩, fun _ => e8n h3 hk⟩), fun q => ?_⟩
  have hi2 : i < 61 := by
    rcases Nat.lt_or_ge i 61 with g | g
    · exact g
    · exact absurd (show nI 60 < nI i from nI_lt (by omega) (by omega)) q
  refine t_day hR hs (fun M2 h2 => any_overSet hn (h2.ro hR).2.1 (fun r => ?_))
  generalize (b.2.2 ||| (r &&& (b.2.2 ^^^ (-1)))) = o2
  generalize (r &&& (b.2.2 ^^^ (-1))) = mo
  refine loopNA (α := Int32 × Int32) (L := fun k2 c i2 M' => wp_X8_last_L74 K (wp_X8_last_L41 K a k) a o2 (nI i) mo k2 c.1 c.2 i2 M') n (fun _ _ M' => M' = M2) ?_ 0 (a := (b.1, b.2.1)) (Nat.zero_le _) rfl
  intro i2 c M3 k2 hi3 e ih2
  subst e
  show wp_X8_last_l74 K (wp_X8_last_L41 K a k) a o2 (nI i) mo (wp_X8_last_L74 K (wp_X8_last_L41 K a k) a o2 (nI i) mo k2) c.1 c.2 (nI i2) M3
  unfold wp_X8_last_l74
  rw [(h2.ro hR).2.1, nI_1]
  refine ⟨fun _ => ih (c.1, c.2, o2) _ hi2 h2, fun q => ?_⟩
  have hi4 : i2 < n := lt_of_nI q (by omega) (by omega)
  have hb : ∀ t, wp_X8_last_b101 K (wp_X8_last_L41 K a k) (wp_X8_last_L74 K (wp_X8_last_L41 K a k) a o2 (nI i) mo k2) a c.1 c.2 o2 (nI i) mo (nI i2) t M3 := by
    intro t
    unfold wp_X8_last_b101
    rw [nI_1]
    have nx : ∀ x y, wp_X8_last_L74 K (wp_X8_last_L41 K a k) a o2 (nI i) mo k2 x y (nI (i2 + 1)) M3 := fun x y => ih2 (x, y) _ hi4 rfl
    exact ⟨fun _ => ⟨fun _ => nx _ _, fun _ => nx _ _⟩, fun _ => ⟨fun _ => nx _ _, fun _ => nx _ _⟩⟩
  exact ⟨fun _ => hb _, fun _ => hb _⟩
theorem m_off {a : Int32} (hR : RO n (M 80)) (hk : ∀ r M1, St SMx M M1 → K r M1) : wp_X8_off a M K := by
  unfold wp_X8_off
  refine w8n 0 60 (by decide) (by decide) (fun g1 g2 => ⟨fun q => ?_, fun _ => hk _ _ St.rf⟩) (fun _ => e8b St.rf hk)
  obtain ⟨N, hN, rfl⟩ := nat_of 60 g1 g2 (by decide)
  obtain ⟨j, rfl⟩ : ∃ j, N = j + 1 := ⟨N - 1, by
    rcases Nat.eq_zero_or_pos N with e | e
    · subst e; exact absurd (by decide) q
    · omega⟩
  rw [nI_pred]
  exact t_go St.rf (fun M1 h1 => t_day hR h1 (fun M2 h2 => t_passes (by omega) hR h2 (fun M3 h3 => t_back2 h3 (fun M4 h4 h5 => t_passes hN hR h5 (fun M6 h6 => t_back h6 (fun M7 h7 => hk _ _ h7))))))
theorem m_chain {a : Int32} (hR : RO n (M 80)) (hk : ∀ r M1, St SMx M M1 → K r M1) : wp_X8_chain a M K := by
  have hn := hR.1
  unfold wp_X8_chain
  refine q8n hR.1 hR.2.1 (fun j hj ej => ?_) (fun _ => e8b St.rf hk)
  subst ej
  rw [nI_1]
  refine loopNA (L := fun k s i M' => wp_X8_chain_L21 K (nI j) k s i M') n (fun _ _ M' => M' = M) ?_ (j + 1) (by omega) rfl
  intro i s M' k hi e ih
  subst e
  show wp_X8_chain_l21 K (nI j) (wp_X8_chain_L21 K (nI j) k) s (nI i) M'
  unfold wp_X8_chain_l21
  rw [hR.2.1]
  refine ⟨fun _ => hk _ _ St.rf, fun q => ?_⟩
  have hi2 : i < n := lt_of_nI q (by omega) (by omega)
  have nx : ∀ s, wp_X8_chain_L21 K (nI j) k s (nI (i + 1)) M' := fun s => ih _ _ hi2 rfl
  rw [nI_1]
  refine m_its 4 (by omega) (m_isOver (by omega) (fun _ => b1b (nx _)) (fun _ => b0b ⟨fun _ => nx _, fun _ => ⟨fun _ => nx _, fun _ => ⟨fun _ => nx _, fun _ => nx _⟩⟩⟩))
theorem m_free (hR : RO n (M 80)) (hk : ∀ r M1, St SMx M M1 → K r M1) : wp_X8_free M K := by
  have hn := hR.1
  unfold wp_X8_free
  refine loopNA (L := fun k s i M' => wp_X8_free_L4 K k s i M') n (fun _ _ M' => M' = M) ?_ 0 (Nat.zero_le _) rfl
  intro i s M' k hi e ih
  subst e
  show wp_X8_free_l4 K (wp_X8_free_L4 K k) s (nI i) M'
  unfold wp_X8_free_l4
  rw [hR.2.1]
  refine ⟨fun _ => hk _ _ St.rf, fun q => ?_⟩
  have hi2 : i < n := lt_of_nI q (by omega) (by omega)
  have nx : ∀ s, wp_X8_free_L4 K k s (nI (i + 1)) M' := fun s => ih _ _ hi2 rfl
  rw [nI_1]
  exact m_isOver (by omega) (fun _ => b1b (nx _)) (fun _ => b0b (m_isLoose hi2 hR (fun _ => ⟨fun _ => nx _, fun _ => nx _⟩)))
theorem m_divisor {s : Nat} (hs : s ≤ 10) (h : ∀ r, ¬ r = 0 → K r M) : wp_X8_divisor (nI s) 10 M K := by
  have H : ∀ k a b : Nat, b < k → a ≤ 10 → b ≤ 10 → (a ≠ 0 ∨ b ≠ 0) → wp_X8_divisor_L4 K k (nI a) (nI b) M := by
    intro k
    induction k with
    | zero => intro a b hb; omega
    | succ k ih =>
      intro a b hb ha hb2 hne
      show wp_X8_divisor_l4 K (wp_X8_divisor_L4 K k) (nI a) (nI b) M
      unfold wp_X8_divisor_l4
      refine pk_eq b 0 (fun e => ?_) (fun e => ?_)
      · exact h _ (nI_ne0 (by omega) (by omega))
      · rw [pk_rem (by omega) (by omega) (by omega)]
        have hm := Nat.mod_lt a (show b > 0 by omega)
        exact ⟨nI_ne0 (by omega) (by omega), ih b (a % b) (by omega) hb2 (by omega) (Or.inl e)⟩
  unfold wp_X8_divisor
  exact ⟨11, H 11 s 10 (by omega) hs (by omega) (Or.inr (by omega))⟩
theorem any_odd (r k : Int32) : ∃ b : Nat, b ≤ 1 ∧ (r >>> (k &&& 31)) &&& 1 = nI b := ⟨((r >>> (k &&& 31)).toBitVec.toNat % 2 ^ 1), by omega, pk_and _ 1 (by decide)⟩
theorem m_odds {a b c : Int32} (hR : RO n (M 80)) (hk : ∀ r M1, St SMx M M1 → K r M1) : wp_X8_odds a b c M K := by
  unfold wp_X8_odds
  refine q8z hR.1 hR.2.1 (fun j hj ej => ?_) (fun _ => e8b St.rf hk)
  subst ej
  refine w8z 0 60 (by decide) (by decide) (fun g1 g2 => ?_) (fun _ => e8b St.rf hk)
  obtain ⟨N, hN, rfl⟩ := nat_of 60 g1 g2 (by decide)
  refine w8n 0 1 (by decide) (by decide) (fun g1 g2 => ?_) (fun _ => e8b St.rf hk)
  refine loopNA (L := fun k s i M' => wp_X8_odds_L49 K (nI j) (nI N) c (M 80 7) k s i M') 10 (fun i s M' => (∃ v : Nat, v ≤ i ∧ s = nI v) ∧ RX 7 M M') ?_ 0 (Nat.zero_le _) ⟨⟨0, by omega, rfl⟩, RX.of St.rf⟩
  intro i s M' k hi hs ih
  obtain ⟨⟨v, hv, rfl⟩, hs⟩ := hs
  show wp_X8_odds_l49 K (nI j) (nI N) c (M 80 7) (wp_X8_odds_L49 K (nI j) (nI N) c (M 80 7) k) (nI v) (nI i) M'
  unfold wp_X8_odds_l49
  refine ⟨fun _ => m_divisor (by omega) (fun r hr => ⟨fun _ => ⟨hr, hk _ _ hs.back⟩, fun _ => ⟨hr, hk _ _ hs.back⟩⟩), fun q => ?_⟩
  have hi2 : i < 10 := lt_of_nI (a := 10) q (by omega) (by omega)
  have hs2 : RX 7 M (up M' 80 7 (nI i)) := hs.put
  refine t_overBehind hN (hs2.ro rfl hR) (fun r M1 h1 => ?_)
  obtain ⟨b, hb, eb⟩ := any_odd r (nI j)
  rw [nI_1, eb, nI_add]
  exact ih _ _ hi2 ⟨⟨v + b, by omega, rfl⟩, hs2.th h1⟩
theorem m_sharp {a b : Int32} (hR : RO n (M 80)) (hk : ∀ r M1, St SMx M M1 → K r M1) : wp_X8_sharp a b M K := by
  have hn := hR.1
  unfold wp_X8_sharp
  refine q8z hR.1 hR.2.1 (fun j hj ej => ?_) (fun _ => e8b St.rf hk)
  subst ej
  refine w8n 1 60 (by decide) (by decide) (fun g1 g2 => ?_) (fun _ => e8b St.rf hk)
  obtain ⟨N, hN, rfl⟩ := nat_of (x := b) 60 (by omega) g2 (by decide)
  have ha : VOL (11 + 7 * j + 3) = true := vol_one (by omega) (by omega)
  refine m_its 3 (by omega) ?_
  have fin : ∀ (v f : Int32) M', RX (11 + 7 * j + 3) M M' → wp_X8_gets (nI j) 3 (M 80 (11 + 7 * j + 3)) M' (fun M2 => (f = 0 → wp_X8_errs (-1000000002) M2 (fun r M3 => K r M3)) ∧ (¬ f = 0 → K v M2)) := fun v f M' hs => m_gets 3 (by omega) ⟨fun _ => e8n hs.back hk, fun _ => hk _ _ hs.back⟩
  refine loopW (σ := Nat × Int32 × Mem) (L := fun k s => wp_X8_sharp_L38 K (nI j) (nI N) (M 80 (11 + 7 * j + 3)) k (nI s.1 - 1) s.2.1 s.2.2) (I := fun k s => s.1 ≤ 100 ∧ k = 100 - s.1 ∧ RX (11 + 7 * j + 3) M s.2.2) ?_ (k := 100) (s := (0, 0, M)) ⟨by show 0 ≤ 100; omega, rfl, RX.of St.rf⟩
  intro k s m hI ih
  obtain ⟨h1, h2, h3⟩ := hI
  show wp_X8_sharp_l38 K (nI j) (nI N) (M 80 (11 + 7 * j + 3)) (wp_X8_sharp_L38 K (nI j) (nI N) (M 80 (11 + 7 * j + 3)) m) (nI s.1 - 1) s.2.1 s.2.2
  unfold wp_X8_sharp_l38
  refine ⟨fun _ => fin (nI s.1 - 1) s.2.1 _ h3, fun q => ⟨fun _ => fin (nI s.1 - 1) s.2.1 _ h3, fun _ => ?_⟩⟩
  have hlt : s.1 < 100 := by
    have := ti_nle (show (99 : Int32).toInt = 99 by decide) (nI_m1 (n := s.1) (by omega)) q
    omega
  have e1 : nI s.1 - 1 + 1 = nI s.1 := by rw [Int32.sub_add_cancel]
  have e2 : nI s.1 = nI (s.1 + 1) - 1 := (nI_pred s.1).symm
  rw [e1]
  refine m_gets 3 (by omega) ?_
  have h4 : RX (11 + 7 * j + 3) M (up s.2.2 80 (11 + 7 * j + 3) (nI s.1)) := h3.put
  refine t_overBehind hN (h4.ro ha hR) (fun r M1 h5 => ?_)
  have nx : ∀ f, wp_X8_sharp_L38 K (nI j) (nI N) (M 80 (11 + 7 * j + 3)) m (nI s.1) f M1 := fun f => by
    rw [e2]
    exact ih (100 - (s.1 + 1)) (s.1 + 1, f, M1) (by omega) ⟨by show s.1 + 1 ≤ 100; omega, rfl, h4.th h5⟩
  exact ⟨fun _ => nx _, fun _ => nx _⟩
end MP
