theorem SA.rv {w r n b t : Nat} {V : Nat → Nat} {h : Nat → Int32} {M : Mem} (hS : SA w r n b t V h M) : RV n V := hS.2.2.2.1
theorem SA.v0 {w r n b t : Nat} {V : Nat → Nat} {h : Nat → Int32} {M : Mem} (hS : SA w r n b t V h M) : V 0 ≤ 9999 := hS.2.2.2.2.1
theorem SA.hh {w r n b t : Nat} {V : Nat → Nat} {h : Nat → Int32} {M : Mem} (hS : SA w r n b t V h M) : HH n h := hS.2.2.2.2.2.1
theorem SA.t0 {w r n b t : Nat} {V : Nat → Nat} {h : Nat → Int32} {M : Mem} (hS : SA w r n b t V h M) : TQ (w + 1) 0 (M r) M := hS.2.2.2.2.2.2.1
theorem SA.t1 {w r n b t : Nat} {V : Nat → Nat} {h : Nat → Int32} {M : Mem} (hS : SA w r n b t V h M) : TQ (w + 6) 1 (M r) M := hS.2.2.2.2.2.2.2.1
theorem e_rest {g n : Nat} {h : Nat → Int32} {V : Nat → Nat} {M : Mem} {K : Mem → Prop} {wh : Bool} {fl : Int32} (hfl : fl = if wh = true then 1 else 0) (hF : GF g) (hR : RG g n h V M) (h7 : M g 7 = nI (V 9)) (hV : RV n V) (hH : HH n h) (hT7 : M 7 5 = 0 ∨ ∃ z, TC 7 z M) (hk : ∀ M1, St (SD g) M M1 → M1 g 7 = nI (restN (tvN 7 M) wh h n V 9) → RG g n h (restN (tvN 7 M) wh h n V) M1 → K M1) : wp_X0_restDay g fl M K := by
  have hn9 := hV.1
  unfold wp_X0_restDay
  refine e_end hfl hF hR h7 hV hH hT7 (fun M2 s2 b7 hR2 => ?_)
  have hv2 := rv_endN (lh := tvN 7 M) (wh := wh) (h := h) hV n (Nat.le_refl n)
  unfold restN at hk
  generalize endN (tvN 7 M) wh h n V = W at hk b7 hR2 hv2
  rintro _ rfl
  obtain ⟨r1, r2, r3, r4, r5, r6⟩ := hR2
  obtain ⟨v1, v2, v3, v4, v5, v6, v7⟩ := hv2
  rw [up_slot _ (by decide), r2, r3, r4, nI_add, show (10 : Int32) = nI 10 from rfl, pk_rem (by omega) (by omega) (by omega), nI_1]
  have mk : ∀ x y k, k ≠ 4 → k ≠ 6 → up (up M2 g 4 x) g 6 y g k = M2 g k := fun x y k h4 h6 => by rw [up_slot _ h6, up_slot _ h4]
  have a : ∀ x y j, j ≠ 0 → j ≠ 7 → adf (adf W 7 x) 0 y j = W j := fun x y j j0 j7 => by rw [adf_o j0, adf_o j7]
  refine hk _ (((s2.w (by intro c hc; simp at hc ⊢; omega)).up (by simp)).up (by simp)) ?_ ⟨?_, ?_, ?_, ?_, ?_, fun q hq => ?_⟩
  · rw [mk _ _ _ (by decide) (by decide), a _ _ _ (by omega) (by omega)]; exact b7
  · rw [mk _ _ _ (by decide) (by decide)]; exact r1
  · rw [up_slot _ (by decide), up_same, adf_o (by omega), adf_s]
  · rw [mk _ _ _ (by decide) (by decide), a _ _ _ (by omega) (by omega)]; exact r3
  · rw [up_same, adf_s]
  · rw [mk _ _ _ (by decide) (by decide), a _ _ _ (by omega) (by omega)]; exact r5
  · obtain ⟨p1, p2, p3, p4, p5, p6, p7⟩ := r6 q hq
    have hc : ∀ x y j, up (up M2 g 4 x) g 6 y (g + 2 + q) j = M2 (g + 2 + q) j := fun x y j => by rw [up_cell (by omega), up_cell (by omega)]
    refine ⟨by rw [hc, a _ _ _ (by omega) (by omega)]; exact p1, by rw [hc, a _ _ _ (by omega) (by omega)]; exact p2, by rw [hc, a _ _ _ (by omega) (by omega)]; exact p3, by rw [hc, a _ _ _ (by omega) (by omega)]; exact p4, by rw [hc]; exact p5, by rw [hc, a _ _ _ (by omega) (by omega)]; exact p6, by rw [hc, a _ _ _ (by omega) (by omega)]; exact p7⟩
/-- the grinder's place or step set by hand -/
theorem RG.gr {g n k s x : Nat} {h : Nat → Int32} {W : Nat → Nat} {M : Mem} (hR : RG g n h W M) (hn : n ≤ 9) (hks : (k = 4 ∧ s = 7) ∨ (k = 5 ∧ s = 8)) : RG g n h (adf W s x) (up M g k (nI x)) := by
  obtain ⟨r1, r2, r3, r4, r5, r6⟩ := hR
  have hc : ∀ q j, up M g k (nI x) (g + 2 + q) j = M (g + 2 + q) j := fun q j => up_cell (by omega)
  refine ⟨by rw [up_slot _ (by omega)]; exact r1, ?_, ?_, by rw [up_slot _ (by omega), adf_o (by omega)]; exact r4, by rw [up_slot _ (by omega), adf_o (by omega)]; exact r5, fun q hq => ?_⟩
  · rcases hks with ⟨rfl, rfl⟩ | ⟨rfl, rfl⟩
    · rw [up_same, adf_s]
    · rw [up_slot _ (by omega), adf_o (by omega)]; exact r2
  · rcases hks with ⟨rfl, rfl⟩ | ⟨rfl, rfl⟩
    · rw [up_slot _ (by omega), adf_o (by omega)]; exact r3
    · rw [up_same, adf_s]
  · obtain ⟨p1, p2, p3, p4, p5, p6, p7⟩ := r6 q hq
    refine ⟨by rw [hc, adf_o (by omega)]; exact p1, by rw [hc, adf_o (by omega)]; exact p2, by rw [hc, adf_o (by omega)]; exact p3, by rw [hc, adf_o (by omega)]; exact p4, by rw [hc]; exact p5, by rw [hc, adf_o (by omega)]; exact p6, by rw [hc, adf_o (by omega)]; exact p7⟩
/-- what thinking needs of what is -/
def SC (n : Nat) (V : Nat → Nat) (h : Nat → Int32) (M : Mem) : Prop := RG 12 n h V M ∧ M 12 7 = nI (V 9) ∧ RV n V ∧ HH n h ∧ (M 2 5 = 0 ∨ ∃ z, TC 2 z M) ∧ (M 7 5 = 0 ∨ ∃ z, TC 7 z M)
theorem SA.sc {n b t : Nat} {V : Nat → Nat} {h : Nat → Int32} {M : Mem} (hS : SA 1 80 n b t V h M) : SC n V h M := ⟨hS.1, hS.2.1, hS.rv, hS.hh, hS.t0.tc, hS.t1.tc⟩
theorem SC.rv {n : Nat} {V : Nat → Nat} {h : Nat → Int32} {M : Mem} (hS : SC n V h M) : RV n V := hS.2.2.1
theorem SC.hh {n : Nat} {V : Nat → Nat} {h : Nat → Int32} {M : Mem} (hS : SC n V h M) : HH n h := hS.2.2.2.1
theorem SC.bo {n : Nat} {V : Nat → Nat} {h : Nat → Int32} {M : Mem} (hS : SC n V h M) : ∀ q : Nat, q < n → BoolOK (M (12 + 2 + q) 6) := fun q hq => by
  have w5 := (hS.2.2.1.2.2.2.2.2.2 q hq).2.2.2.2.1
  rw [(hS.1.2.2.2.2.2 q hq).2.2.2.2.2.1]
  rcases (by omega : V (16 + 7 * q) = 0 ∨ V (16 + 7 * q) = 1) with e | e
  · rw [e]; exact Or.inl rfl
  · rw [e]; exact Or.inr rfl
/-- the thought holds V; the rest is as at M0 -/
def TH (n : Nat) (h : Nat → Int32) (V : Nat → Nat) (M0 M : Mem) : Prop := St SY M0 M ∧ RG 49 n h V M ∧ M 49 7 = nI (V 9)
section KT
variable {n : Nat} {h : Nat → Int32} {V0 V : Nat → Nat} {M0 M : Mem}
theorem TH.put {k s i x : Nat} (hT : TH n h V M0 M) (hi : i < n) (hn : n ≤ 9) (hks : (k = 3 ∧ s = 14) ∨ (k = 6 ∧ s = 16) ∨ (k = 5 ∧ s = 17)) : TH n h (adf V (s + 7 * i) x) M0 (up M (51 + i) k (nI x)) :=
  ⟨hT.1.up (by simp; omega), hT.2.1.put (g := 49) hi hn hks, by rw [up_cell (by omega), adf_o (by omega)]; exact hT.2.2⟩
theorem TH.gr {k s x : Nat} (hT : TH n h V M0 M) (hn : n ≤ 9) (hks : (k = 4 ∧ s = 7) ∨ (k = 5 ∧ s = 8)) : TH n h (adf V s x) M0 (up M 49 k (nI x)) :=
  ⟨hT.1.up (by simp), hT.2.1.gr hn hks, by rw [up_slot _ (by omega), adf_o (by omega)]; exact hT.2.2⟩
theorem k_think {K : Mem → Prop} (hS : SC n V h M0) (hs : St SY M0 M) (hk : ∀ M1, TH n h V M0 M1 → K M1) : wp_X7_think M K := by
  have hn := hS.rv.1
  have e : ∀ c, 12 ≤ c → c ≤ 22 → M c = M0 c := fun c c1 c2 => hs c (by simp; omega)
  obtain ⟨r1, r2, r3, r4, r5, r6⟩ := hS.1
  have s7 : M0 12 7 = nI (V 9) := hS.2.1
  unfold wp_X7_think
  refine cp_ground GO49 GO12 (by omega) hn (by rw [e 12 (by omega) (by omega)]; exact r1) (fun q hq => ?_) (fun M1 h1 h2 h3 => hk _ ⟨hs.tr (h1.w (by simp <;> omega)), ⟨?_, ?_, ?_, ?_, ?_, fun q hq => ?_⟩, ?_⟩)
  · rw [e _ (by omega) (by omega)]
    exact hS.bo q hq
  · rw [h2 3 (by omega) (by omega), e 12 (by omega) (by omega)]; exact r1
  · rw [h2 4 (by omega) (by omega), e 12 (by omega) (by omega)]; exact r2
  · rw [h2 5 (by omega) (by omega), e 12 (by omega) (by omega)]; exact r3
  · rw [h2 6 (by omega) (by omega), e 12 (by omega) (by omega)]; exact r4
  · rw [h2 8 (by omega) (by omega), e 12 (by omega) (by omega)]; exact r5
  · have := r6 q hq
    have f : ∀ k, k < 7 → M1 (49 + 2 + q) k = M0 (12 + 2 + q) k := fun k hk => by rw [h3 q hq k hk, e _ (by omega) (by omega)]
    rw [f 0 (by omega), f 1 (by omega), f 2 (by omega), f 3 (by omega), f 4 (by omega), f 5 (by omega), f 6 (by omega)]
    exact this
  · rw [h2 7 (by omega) (by omega), e 12 (by omega) (by omega)]; exact s7
theorem TH.tx (hT : TH n h V M0 M) : tvN 2 M = tvN 2 M0 ∧ tvN 7 M = tvN 7 M0 := by
  have k : ∀ c, 2 ≤ c → c ≤ 10 → c ≠ 6 → M c = M0 c := fun c c1 c2 c3 => hT.1 c (by simp; omega)
  exact ⟨tvN_keep (k 2 (by omega) (by omega) (by omega)) (k 3 (by omega) (by omega) (by omega)) (k 4 (by omega) (by omega) (by omega)) (k 5 (by omega) (by omega) (by omega)), tvN_keep (k 7 (by omega) (by omega) (by omega)) (k 8 (by omega) (by omega) (by omega)) (k 9 (by omega) (by omega) (by omega)) (k 10 (by omega) (by omega) (by omega))⟩
theorem tc_keep {t : Nat} {M M1 : Mem} (e0 : M1 t = M t) (e1 : M1 (t + 1) = M (t + 1)) (e2 : M1 (t + 2) = M (t + 2)) (e3 : M1 (t + 3) = M (t + 3)) (hT : M t 5 = 0 ∨ ∃ z, TC t z M) : M1 t 5 = 0 ∨ ∃ z, TC t z M1 := by
  unfold TC
  rw [e0, e1, e2, e3]
  exact hT
theorem TH.tc (hS : SC n V0 h M0) (hs : St SY M0 M) : (M 2 5 = 0 ∨ ∃ z, TC 2 z M) ∧ (M 7 5 = 0 ∨ ∃ z, TC 7 z M) := by
  have k : ∀ c, 2 ≤ c → c ≤ 10 → c ≠ 6 → M c = M0 c := fun c c1 c2 c3 => hs c (by simp; omega)
  exact ⟨tc_keep (k 2 (by omega) (by omega) (by omega)) (k 3 (by omega) (by omega) (by omega)) (k 4 (by omega) (by omega) (by omega)) (k 5 (by omega) (by omega) (by omega)) hS.2.2.2.2.1, tc_keep (k 7 (by omega) (by omega) (by omega)) (k 8 (by omega) (by omega) (by omega)) (k 9 (by omega) (by omega) (by omega)) (k 10 (by omega) (by omega) (by omega)) hS.2.2.2.2.2⟩
theorem k_pass {K : Mem → Prop} {wh : Bool} {fl : Int32} (hfl : fl = if wh = true then 1 else 0) (hS : SC n V0 h M0) (hV : RV n V) (hT : TH n h V M0 M) (hk : ∀ M1, TH n h (dayN (tvN 2 M0) (tvN 7 M0) wh h n V) M0 M1 → K M1) : wp_X0_passDay 49 fl M K := by
  have hc := TH.tc hS hT.1
  obtain ⟨x2, x7⟩ := hT.tx
  rw [← x2, ← x7] at hk
  exact e_day hfl GF49 hT.2.1 hT.2.2 hV hS.hh hc.1 hc.2 (fun M1 s1 g7 r1 => hk _ ⟨hT.1.tr (s1.w (by simp <;> omega)), r1, g7⟩)
theorem k_rest {K : Mem → Prop} (hS : SC n V0 h M0) (hV : RV n V) (hT : TH n h V M0 M) (hk : ∀ M1, TH n h (restN (tvN 7 M0) true h n V) M0 M1 → K M1) : wp_X0_restDay 49 1 M K := by
  have hc := TH.tc hS hT.1
  obtain ⟨x2, x7⟩ := hT.tx
  rw [← x7] at hk
  exact e_rest (wh := true) rfl GF49 hT.2.1 hT.2.2 hV hS.hh hc.2 (fun M1 s1 g7 r1 => hk _ ⟨hT.1.tr (s1.w (by simp <;> omega)), r1, g7⟩)
theorem k_days {N : Nat} {K : Mem → Prop} (hN : N ≤ 60) (hS : SC n V0 h M0) (hV : RV n V) (h0 : V 0 ≤ 10100) (hT : TH n h V M0 M) (hk : ∀ M1, TH n h (passN (tvN 2 M0) (tvN 7 M0) false h n N V) M0 M1 → K M1) : wp_X7_thinkDays (nI N) M K := by
  unfold wp_X7_thinkDays
  refine loopN (L := fun k i M' => wp_X7_thinkDays_L2 K (nI N) k i M') N (fun i M' => TH n h (passN (tvN 2 M0) (tvN 7 M0) false h n i V) M0 M') ?_ 0 (Nat.zero_le _) hT
  intro i M' k hi hs ih
  show wp_X7_thinkDays_l2 K (nI N) (wp_X7_thinkDays_L2 K (nI N) k) (nI i) M'
  unfold wp_X7_thinkDays_l2
  refine ⟨fun q => ?_, fun q => ?_⟩
  · have : i = N := by have := le_of_nI q (by omega) (by omega); omega
    subst this; exact hk _ hs
  · rw [nI_1]
    exact k_pass (wh := false) rfl hS (rv_pass hV i (by omega)).1 hs (fun M1 h1 => ih _ (lt_of_nI q (by omega) (by omega)) h1)
theorem k_daysH {N : Nat} {K : Mem → Prop} (hN : N ≤ 60) (hS : SC n V0 h M0) (hV : RV n V) (h0 : V 0 ≤ 10100) (hT : TH n h V M0 M) (hk : ∀ M1, TH n h (passN (tvN 2 M0) (tvN 7 M0) true h n N V) M0 M1 → K M1) : wp_X7_thinkDaysWithHarm (nI N) M K := by
  unfold wp_X7_thinkDaysWithHarm
  refine loopN (L := fun k i M' => wp_X7_thinkDaysWithHarm_L2 K (nI N) k i M') N (fun i M' => TH n h (passN (tvN 2 M0) (tvN 7 M0) true h n i V) M0 M') ?_ 0 (Nat.zero_le _) hT
  intro i M' k hi hs ih
  show wp_X7_thinkDaysWithHarm_l2 K (nI N) (wp_X7_thinkDaysWithHarm_L2 K (nI N) k) (nI i) M'
  unfold wp_X7_thinkDaysWithHarm_l2
  refine ⟨fun q => ?_, fun q => ?_⟩
  · have : i = N := by have := le_of_nI q (by omega) (by omega); omega
    subst this; exact hk _ hs
  · rw [nI_1]
    exact k_pass (wh := true) rfl hS (rv_pass hV i (by omega)).1 hs (fun M1 h1 => ih _ (lt_of_nI q (by omega) (by omega)) h1)
/-- what has ended stays so -/
theorem endN_stay {lh : Nat → Nat → Nat → Nat} {wh : Bool} {q : Nat} (hq : V (16 + 7 * q) ≠ 0) : ∀ i, endN lh wh h i V (16 + 7 * q) = V (16 + 7 * q) := by
  intro i
  induction i with
  | zero => rfl
  | succ i ih =>
    show end1 lh wh h i (endN lh wh h i V) (16 + 7 * q) = _
    generalize endN lh wh h i V = W at ih
    unfold end1
    split
    · next c =>
      have hne : i ≠ q := fun e => by subst e; rw [c] at ih; exact hq ih.symm
      split
      · rw [adf_o (by omega)]; exact ih
      · rw [adf_o (by omega), adf_o (by omega)]
        split
        · rw [adf_o (by omega)]; exact ih
        · exact ih
    · exact ih
theorem day_stay {lg lh : Nat → Nat → Nat → Nat} {wh : Bool} {q : Nat} (hq : V (16 + 7 * q) ≠ 0) : dayN lg lh wh h n V (16 + 7 * q) = V (16 + 7 * q) := by
  have e : grindN lg n V (16 + 7 * q) = V (16 + 7 * q) := grindN_keep (by omega) (fun r => by omega) n
  rw [day_rest_eq]
  unfold restN
  rw [adf_o (by omega), adf_o (by omega), endN_stay (by rw [e]; exact hq), e]
theorem pass_stay {lg lh : Nat → Nat → Nat → Nat} {wh : Bool} {q i : Nat} (hq : passN lg lh wh h n i V (16 + 7 * q) ≠ 0) : ∀ k, passN lg lh wh h n (i + k) V (16 + 7 * q) = passN lg lh wh h n i V (16 + 7 * q) := by
  intro k
  induction k with
  | zero => rfl
  | succ k ih =>
    show dayN lg lh wh h n (passN lg lh wh h n (i + k) V) (16 + 7 * q) = _
    rw [day_stay (by rw [ih]; exact hq), ih]
theorem k_ends {N j : Nat} {K : Int32 → Mem → Prop} (hN : N ≤ 60) (hj : j < n) (hS : SC n V0 h M0) (hV : RV n V) (h0 : V 0 ≤ 10100) (hT : TH n h V M0 M) (hk : ∀ M1, St SY M0 M1 → K (nI (passN (tvN 2 M0) (tvN 7 M0) false h n N V (16 + 7 * j))) M1) : wp_X7_endsInThought (nI j) (nI N) M K := by
  have hn := hV.1
  unfold wp_X7_endsInThought
  refine ⟨vp_in_nI (by omega) (by decide), ?_⟩
  rw [nI_clamp (by omega)]
  refine loopN (L := fun k i M' => wp_X7_endsInThought_L13 K (nI N) (51 + j) k i M') N (fun i M' => TH n h (passN (tvN 2 M0) (tvN 7 M0) false h n i V) M0 M') ?_ 0 (Nat.zero_le _) hT
  intro i M' k hi hs ih
  show wp_X7_endsInThought_l13 K (nI N) (51 + j) (wp_X7_endsInThought_L13 K (nI N) (51 + j) k) (nI i) M'
  unfold wp_X7_endsInThought_l13
  have hv := (rv_pass (lg := tvN 2 M0) (lh := tvN 7 M0) (wh := false) (h := h) hV i (by omega)).1
  have w5 := (hv.2.2.2.2.2.2 j hj).2.2.2.2.1
  have e6 : M' (51 + j) 6 = nI (passN (tvN 2 M0) (tvN 7 M0) false h n i V (16 + 7 * j)) := (hs.2.1.2.2.2.2.2 j hj).2.2.2.2.2.1
  have hb : M' (51 + j) 6 = 0 ∨ M' (51 + j) 6 = 1 := by
    rw [e6]
    rcases (by omega : passN (tvN 2 M0) (tvN 7 M0) false h n i V (16 + 7 * j) = 0 ∨ passN (tvN 2 M0) (tvN 7 M0) false h n i V (16 + 7 * j) = 1) with e | e
    · rw [e]; exact Or.inl rfl
    · rw [e]; exact Or.inr rfl
  refine ⟨fun q => ⟨hb, ?_⟩, fun q => ⟨fun q2 => ⟨hb, ?_⟩, fun q2 => ?_⟩⟩
  · have : i = N := by have := le_of_nI q (by omega) (by omega); omega
    subst this
    rw [e6]; exact hk _ hs.1
  · rw [e6] at q2 ⊢
    have hin : i < N := lt_of_nI q (by omega) (by omega)
    have hne : passN (tvN 2 M0) (tvN 7 M0) false h n i V (16 + 7 * j) ≠ 0 := fun e => q2 (by rw [e]; rfl)
    have hp := pass_stay (wh := false) hne (N - i)
    rw [show i + (N - i) = N by omega] at hp
    rw [← hp]; exact hk _ hs.1
  · rw [nI_1]
    exact k_pass (wh := false) rfl hS hv hs (fun M1 h1 => ih _ (lt_of_nI q (by omega) (by omega)) h1)
end KT
