section MD
variable {n : Nat} {h : Nat → Int32} {V : Nat → Nat} {M X : Mem}
theorem g_grind {K : Mem → Prop} (hR : RR n h V (M 80)) (hV : RV n V) (hT : TQ 2 0 (M 80) X) (hk : ∀ M1, SMV M M1 → RR n h (grindN (tvN 2 X) n V) (M1 80) → K M1) : wp_X8_grindsAll M K := by
  have hn := hV.1
  unfold wp_X8_grindsAll
  refine loopN (L := fun k i M' => wp_X8_grindsAll_L2 K k i M') n (fun i M' => SMV M M' ∧ RR n h (grindN (tvN 2 X) i V) (M' 80)) ?_ 0 (Nat.zero_le _) ⟨SMV.rf, hR⟩
  intro i M' k hi hs ih
  obtain ⟨hs, hr⟩ := hs
  show wp_X8_grindsAll_l2 K (wp_X8_grindsAll_L2 K k) (nI i) M'
  unfold wp_X8_grindsAll_l2
  have hv := rv_grindN (lg := tvN 2 X) hV i hi
  have ih' : ∀ M1, i < n → SMV M M1 → RR n h (grind1 (tvN 2 X) i (grindN (tvN 2 X) i V)) (M1 80) → wp_X8_grindsAll_L2 K k (nI (i + 1)) M1 := fun M1 a b c => ih M1 a ⟨b, c⟩
  generalize hW : grindN (tvN 2 X) i V = W at hr hv ih'
  rw [hr.1, nI_1]
  refine ⟨fun g => ?_, fun g => ?_⟩
  · have : i = n := by have := le_of_nI g (by omega) (by omega); omega
    subst this
    exact hk _ hs (by rw [hW]; exact hr)
  · have hin : i < n := lt_of_nI g (by omega) (by omega)
    obtain ⟨v1, v2, v3, v4, v5, v6, v7⟩ := hv
    obtain ⟨w1, w2, w3, w4, w5, w6⟩ := v7 i hin
    have hv : RV n W := ⟨v1, v2, v3, v4, v5, v6, v7⟩
    unfold grind1 at ih'
    refine g_over hr hv hin (fun o => b1b ?_) (fun o => b0b ?_)
    · rw [if_neg (fun c => o c.2)] at ih'
      exact ih' M' hin hs hr
    · refine i_it 2 (13 + 7 * i) hn hr hin (by omega) ?_
      rw [hr.2.2 7 (Or.inr (Or.inl (by omega)))]
      refine ⟨fun g2 => ?_, fun g2 => ?_⟩
      · rw [if_neg (fun c => g2 (by rw [c.1]))] at ih'
        exact ih' M' hin hs hr
      · have c1 : W (13 + 7 * i) = W 7 := (nI_eq (by omega) (by omega)).mp g2
        rw [if_pos ⟨c1, o⟩] at ih'
        refine i_it 3 (14 + 7 * i) hn hr hin (by omega) (g_gains hr hv hin (hs.tq (by omega) hT) (fun M2 h2 => ?_))
        have hgl := gainN_le (kd := W (11 + 7 * i)) (m := W (12 + 7 * i)) (v := tvN 2 X (W (14 + 7 * i)) (W (17 + 7 * i)) (W 0 % 7)) (age := W (17 + 7 * i)) (day := W 0) w2 tvN_eq.2
        generalize gainN (W (11 + 7 * i)) (W (12 + 7 * i)) (tvN 2 X (W (14 + 7 * i)) (W (17 + 7 * i)) (W 0 % 7)) (W (17 + 7 * i)) (W 0) = G at hgl ih' ⊢
        rw [nI_add]
        have hr2 : RR n h W (M2 80) := by rw [h2 80 rfl]; exact hr
        refine m_heldN (c := 99) (by omega) (by omega) (i_gets 3 (14 + 7 * i) _ hn hr2 hin (by omega) (fun hr3 => ?_))
        rw [hr3.2.2 10 (Or.inr (Or.inl (by omega))), adf_o (show 10 ≠ 14 + 7 * i by omega), show (3 : Int32) = nI 3 from rfl, nI_add]
        refine m_heldN (c := 99999) (by omega) (by omega) ?_
        exact ih' _ hin (((hs.w h2).put (vol_on (w := 3) (by omega) (by omega))).put rfl) (hr3.put (by omega) (fun r hr => by omega))
theorem g_goes {q : Nat} {K : Mem → Prop} (hR : RR n h V (M 80)) (hV : RV n V) (hH : HH n h) (hq : q < n) (hT : TQ 7 1 (M 80) X) (ho : V (16 + 7 * q) = 0) (hk : ∀ M1, SMV M M1 → RR n h (end1 (tvN 7 X) true h q V) (M1 80) → K M1) : wp_X8_goesOn (nI q) M K := by
  have hn := hV.1
  obtain ⟨v1, v2, v3, v4, v5, v6, v7⟩ := hV
  obtain ⟨w1, w2, w3, w4, w5, w6⟩ := v7 q hq
  have hV : RV n V := ⟨v1, v2, v3, v4, v5, v6, v7⟩
  unfold end1 at hk
  rw [if_pos ho] at hk
  have hb : ¬ (needN (V (11 + 7 * q)) (V (12 + 7 * q)) ≤ V (14 + 7 * q) ∧ freeN h q V = true) → wp_X8_goesOn_b32 K (nI q) M := by
    intro c2
    rw [if_neg c2, if_pos rfl] at hk
    unfold wp_X8_goesOn_b32
    refine i_it 3 (14 + 7 * q) hn hR hq (by omega) (i_it 6 (17 + 7 * q) hn hR hq (by omega) (i_it 1 (12 + 7 * q) hn hR hq (by omega) ?_))
    refine e_lawOf (t := 7) (w := 1) (by omega) hT (fun M2 h2 => ?_)
    rw [tvN_eq.1, hR.2.2 9 (Or.inr (Or.inl (by omega))), nI_add]
    have hv99 := (tvN_eq (t := 7) (M := X) (a := V (14 + 7 * q)) (b := V (17 + 7 * q)) (c := V (12 + 7 * q))).2
    generalize tvN 7 X (V (14 + 7 * q)) (V (17 + 7 * q)) (V (12 + 7 * q)) = v at hk hv99 ⊢
    refine m_heldN (c := 99999) (by omega) (by omega) ?_
    have hr2 : RR n h V (M2 80) := by rw [h2 80 rfl]; exact hR
    have hr3 := hr2.put (j := 9) (x := min 99999 (V 9 + v)) (by omega) (fun r hr => by omega)
    have s3 : SMV M (up M2 80 9 (nI (min 99999 (V 9 + v)))) := (SMV.rf.w h2).put rfl
    have u : ∀ k, k ≠ 9 → adf V 9 (min 99999 (V 9 + v)) k = V k := fun k hk => adf_o hk
    generalize adf V 9 (min 99999 (V 9 + v)) = U at hr3 hk u
    generalize up M2 80 9 (nI (min 99999 (V 9 + v))) = M3 at hr3 s3 ⊢
    have hdl := dullN_le (kd := V (11 + 7 * q))
    refine i_it 3 (14 + 7 * q) hn hr3 hq (by omega) (g_dulls hn hr3 hq (by rw [u _ (by omega)]; exact w1) ?_)
    rw [u _ (by omega), u _ (by omega)]
    refine m_heldS (c := 99) (by omega) (by omega) (by omega) ?_
    rw [show min 99 (V (14 + 7 * q) - dullN (V (11 + 7 * q))) = V (14 + 7 * q) - dullN (V (11 + 7 * q)) by omega]
    refine i_gets 3 (14 + 7 * q) _ hn hr3 hq (by omega) (fun hr4 => i_it 6 (17 + 7 * q) hn hr4 hq (by omega) ?_)
    rw [adf_o (by omega), u _ (by omega), nI_1]
    refine m_heldN (c := 999) (by omega) (by omega) (i_gets 6 (17 + 7 * q) _ hn hr4 hq (by omega) (fun hr5 => ?_))
    exact hk _ ((s3.put (vol_on (w := 3) (by omega) (by omega))).put (vol_on (w := 6) (by omega) (by omega))) hr5
  unfold wp_X8_goesOn
  refine i_it 3 (14 + 7 * q) hn hR hq (by omega) (g_needs hR hV hq ?_)
  have hnl := needN_le (kd := V (11 + 7 * q)) (m := V (12 + 7 * q)) w2
  refine pk_lt (V (14 + 7 * q)) (needN (V (11 + 7 * q)) (V (12 + 7 * q))) (fun hlt => hb (fun c2 => by omega)) (fun hge => ?_)
  refine g_loose hR hV hH hq (fun hf => b1a ?_) (fun hf => b0a (hb (fun c => hf c.2)))
  rw [if_pos ⟨hge, hf⟩] at hk
  exact i_gets 5 (16 + 7 * q) 1 hn hR hq (by omega) (fun hr4 => hk _ (SMV.rf.put (vol_on (w := 5) (by omega) (by omega))) hr4)
/-- what is left of a day behind the grinding -/
def restN (lh : Nat → Nat → Nat → Nat) (wh : Bool) (h : Nat → Int32) (n : Nat) (V : Nat → Nat) : Nat → Nat := adf (adf (endN lh wh h n V) 7 ((endN lh wh h n V 7 + endN lh wh h n V 8) % 10)) 0 (endN lh wh h n V 0 + 1)
theorem g_rest {K : Mem → Prop} (hR : RR n h V (M 80)) (hV : RV n V) (hH : HH n h) (hT : TQ 7 1 (M 80) X) (hk : ∀ M1, SMV M M1 → RR n h (restN (tvN 7 X) true h n V) (M1 80) → K M1) : ∃ k, wp_X8_oneDay_L10 K k 0 M := by
  have hn := hV.1
  refine loopN (L := fun k i M' => wp_X8_oneDay_L10 K k i M') n (fun i M' => SMV M M' ∧ RR n h (endN (tvN 7 X) true h i V) (M' 80)) ?_ 0 (Nat.zero_le _) ⟨SMV.rf, hR⟩
  intro i M' k hi hs ih
  obtain ⟨hs, hr⟩ := hs
  show wp_X8_oneDay_l10 K (wp_X8_oneDay_L10 K k) (nI i) M'
  unfold wp_X8_oneDay_l10
  have hv := rv_endN (lh := tvN 7 X) (wh := true) (h := h) hV i hi
  have ih' : ∀ M1, i < n → SMV M M1 → RR n h (end1 (tvN 7 X) true h i (endN (tvN 7 X) true h i V)) (M1 80) → wp_X8_oneDay_L10 K k (nI (i + 1)) M1 := fun M1 a b c => ih M1 a ⟨b, c⟩
  rw [hr.1, nI_1]
  refine ⟨fun g => ?_, fun g => ?_⟩
  · have : i = n := by have := le_of_nI g (by omega) (by omega); omega
    subst this
    unfold restN at hk
    generalize endN (tvN 7 X) true h i V = W at hr hv hk
    obtain ⟨v1, v2, v3, v4, v5, v6, v7⟩ := hv
    rintro _ rfl
    rw [hr.2.2 7 (Or.inr (Or.inl (by omega))), hr.2.2 8 (Or.inr (Or.inl (by omega))), nI_add, show (10 : Int32) = nI 10 from rfl, pk_rem (by omega) (by omega) (by omega)]
    have hr2 := hr.put (j := 7) (x := (W 7 + W 8) % 10) (by omega) (fun r hr => by omega)
    rw [hr2.2.2 0 (Or.inl rfl), adf_o (by omega), nI_1]
    exact hk _ ((hs.put rfl).put rfl) (hr2.put (by omega) (fun r hr => by omega))
  · have hin : i < n := lt_of_nI g (by omega) (by omega)
    generalize endN (tvN 7 X) true h i V = W at hr hv ih'
    refine g_over hr hv hin (fun o => b1b ?_) (fun o => b0b ?_)
    · unfold end1 at ih'
      rw [if_neg o] at ih'
      exact ih' M' hin hs hr
    · exact g_goes hr hv hH hin (hs.tq (by omega) hT) o (fun M2 s2 hr2 => ih' M2 hin (hs.tr s2) hr2)
theorem g_day {w : Int32} {K : Mem → Prop} (hw : ¬ w = 0) (hR : RR n h V (M 80)) (hV : RV n V) (hH : HH n h) (hT2 : TQ 2 0 (M 80) X) (hT7 : TQ 7 1 (M 80) X) (hk : ∀ M1, SMV M M1 → RR n h (dayN (tvN 2 X) (tvN 7 X) true h n V) (M1 80) → K M1) : wp_X8_oneDay w M K := by
  unfold wp_X8_oneDay
  exact ⟨fun e => absurd e hw, fun _ => g_grind hR hV hT2 (fun M1 s1 r1 => g_rest r1 (rv_grindN hV n (Nat.le_refl n)) hH (s1.tq (by omega) hT7) (fun M2 s2 r2 => hk M2 (s1.tr s2) r2))⟩
theorem g_day0 {K : Mem → Prop} (hR : RR n h V (M 80)) (hV : RV n V) (hH : HH n h) (hT7 : TQ 7 1 (M 80) X) (hk : ∀ M1, SMV M M1 → RR n h (restN (tvN 7 X) true h n V) (M1 80) → K M1) : wp_X8_oneDay 0 M K := by
  unfold wp_X8_oneDay
  exact ⟨fun _ => g_rest hR hV hH hT7 hk, fun e => absurd rfl e⟩
theorem endN_keep {lh : Nat → Nat → Nat → Nat} {wh : Bool} {k : Nat} (h9 : k ≠ 9) (hq : ∀ q : Nat, k ≠ 14 + 7 * q ∧ k ≠ 16 + 7 * q ∧ k ≠ 17 + 7 * q) : ∀ i, endN lh wh h i V k = V k := by
  intro i
  induction i with
  | zero => rfl
  | succ i ih =>
    show end1 lh wh h i (endN lh wh h i V) k = V k
    obtain ⟨q1, q2, q3⟩ := hq i
    generalize endN lh wh h i V = W at ih
    unfold end1
    split
    · split
      · rw [adf_o q2]; exact ih
      · rw [adf_o q3, adf_o q1]
        split
        · rw [adf_o h9]; exact ih
        · exact ih
    · exact ih
theorem grindN_keep {lg : Nat → Nat → Nat → Nat} {k : Nat} (h10 : k ≠ 10) (hq : ∀ q : Nat, k ≠ 14 + 7 * q) : ∀ i, grindN lg i V k = V k := by
  intro i
  induction i with
  | zero => rfl
  | succ i ih =>
    show grind1 lg i (grindN lg i V) k = V k
    unfold grind1
    split
    · rw [adf_o h10, adf_o (hq i)]; exact ih
    · exact ih
theorem rest_0 {lh : Nat → Nat → Nat → Nat} {wh : Bool} : restN lh wh h n V 0 = V 0 + 1 := by
  unfold restN
  rw [adf_s, endN_keep (by omega) (fun q => by omega)]
theorem rv_rest {lh : Nat → Nat → Nat → Nat} {wh : Bool} (hV : RV n V) (h0 : V 0 + 1 < 2 ^ 19) : RV n (restN lh wh h n V) := by
  have hv := rv_endN (lh := lh) (wh := wh) (h := h) hV n (Nat.le_refl n)
  have e0 : endN lh wh h n V 0 = V 0 := endN_keep (by omega) (fun q => by omega) n
  unfold restN
  rw [e0]
  generalize endN lh wh h n V = W at hv
  obtain ⟨v1, v2, v3, v4, v5, v6, v7⟩ := hv
  have a : ∀ x y j, j ≠ 0 → j ≠ 7 → adf (adf W 7 x) 0 y j = W j := fun x y j j0 j7 => by rw [adf_o j0, adf_o j7]
  refine ⟨v1, by rw [adf_s]; exact h0, by rw [adf_o (by omega), adf_s]; omega, by rw [a _ _ _ (by omega) (by omega)]; exact v4, by rw [a _ _ _ (by omega) (by omega)]; exact v5, by rw [a _ _ _ (by omega) (by omega)]; exact v6, fun q hq => ?_⟩
  obtain ⟨g1, g2, g3, g4, g5, g6⟩ := v7 q hq
  exact ⟨by rw [a _ _ _ (by omega) (by omega)]; exact g1, by rw [a _ _ _ (by omega) (by omega)]; exact g2, by rw [a _ _ _ (by omega) (by omega)]; exact g3, by rw [a _ _ _ (by omega) (by omega)]; exact g4, by rw [a _ _ _ (by omega) (by omega)]; exact g5, by rw [a _ _ _ (by omega) (by omega)]; exact g6⟩
theorem day_rest_eq {lg lh : Nat → Nat → Nat → Nat} {wh : Bool} : dayN lg lh wh h n V = restN lh wh h n (grindN lg n V) := rfl
theorem day_0 {lg lh : Nat → Nat → Nat → Nat} {wh : Bool} : dayN lg lh wh h n V 0 = V 0 + 1 := by
  rw [day_rest_eq, rest_0, grindN_keep (by omega) (fun q => by omega)]
theorem rv_day {lg lh : Nat → Nat → Nat → Nat} {wh : Bool} (hV : RV n V) (h0 : V 0 + 1 < 2 ^ 19) : RV n (dayN lg lh wh h n V) := by
  rw [day_rest_eq]
  exact rv_rest (rv_grindN hV n (Nat.le_refl n)) (by rw [grindN_keep (by omega) (fun q => by omega)]; exact h0)
/-- n days -/
def passN (lg lh : Nat → Nat → Nat → Nat) (wh : Bool) (h : Nat → Int32) (n : Nat) : Nat → (Nat → Nat) → Nat → Nat
  | 0, V => V
  | k + 1, V => dayN lg lh wh h n (passN lg lh wh h n k V)
theorem rv_pass {lg lh : Nat → Nat → Nat → Nat} {wh : Bool} (hV : RV n V) : ∀ k, V 0 + k < 2 ^ 19 → RV n (passN lg lh wh h n k V) ∧ passN lg lh wh h n k V 0 = V 0 + k := by
  intro k
  induction k with
  | zero => intro _; exact ⟨hV, rfl⟩
  | succ k ih =>
    intro hk
    obtain ⟨i1, i2⟩ := ih (by omega)
    exact ⟨rv_day i1 (by omega), by show dayN lg lh wh h n (passN lg lh wh h n k V) 0 = _; rw [day_0]; omega⟩
theorem g_passes {N : Nat} {K : Mem → Prop} (hN : N < 2 ^ 18) (hR : RR n h V (M 80)) (hV : RV n V) (h0 : V 0 + N < 2 ^ 19) (hH : HH n h) (hT2 : TQ 2 0 (M 80) X) (hT7 : TQ 7 1 (M 80) X) (hk : ∀ M1, SMV M M1 → RR n h (passN (tvN 2 X) (tvN 7 X) true h n N V) (M1 80) → K M1) : wp_X8_passes (nI N) M K := by
  unfold wp_X8_passes
  refine loopN (L := fun k i M' => wp_X8_passes_L2 K (nI N) k i M') N (fun i M' => SMV M M' ∧ RR n h (passN (tvN 2 X) (tvN 7 X) true h n i V) (M' 80)) ?_ 0 (Nat.zero_le _) ⟨SMV.rf, hR⟩
  intro i M' k hi hs ih
  obtain ⟨hs, hr⟩ := hs
  show wp_X8_passes_l2 K (nI N) (wp_X8_passes_L2 K (nI N) k) (nI i) M'
  unfold wp_X8_passes_l2
  refine ⟨fun g => ?_, fun g => ?_⟩
  · have : i = N := by have := le_of_nI g (by omega) (by omega); omega
    subst this; exact hk _ hs hr
  · have hin : i < N := lt_of_nI g (by omega) (by omega)
    obtain ⟨i1, i2⟩ := rv_pass (lg := tvN 2 X) (lh := tvN 7 X) (wh := true) (h := h) hV i (by omega)
    rw [nI_1]
    exact g_day (by decide) hr i1 hH (hs.tq (by omega) hT2) (hs.tq (by omega) hT7) (fun M2 s2 r2 => ih _ hin ⟨hs.tr s2, r2⟩)
/-- equal but for the harm -/
def E9 (V W : Nat → Nat) : Prop := ∀ k, k ≠ 9 → V k = W k
theorem E9.rf {V : Nat → Nat} : E9 V V := fun _ _ => rfl
theorem E9.tr {V W U : Nat → Nat} (h : E9 V W) (h2 : E9 W U) : E9 V U := fun k hk => (h k hk).trans (h2 k hk)
theorem E9.put {V W : Nat → Nat} (h : E9 V W) {j x : Nat} : E9 (adf V j x) (adf W j x) := fun k hk => by
  by_cases e : k = j
  · rw [e, adf_s, adf_s]
  · rw [adf_o e, adf_o e]; exact h k hk
theorem E9.harm {V W : Nat → Nat} (h : E9 V W) {x : Nat} : E9 (adf V 9 x) W := fun k hk => by rw [adf_o hk]; exact h k hk
theorem E9.sy {V W : Nat → Nat} (h : E9 V W) : E9 W V := fun k hk => (h k hk).symm
theorem E9.free {V W : Nat → Nat} (e : E9 V W) {q : Nat} : freeN h q V = freeN h q W := by
  unfold freeN
  rw [e _ (by omega)]
theorem E9.grind {V W : Nat → Nat} {lg : Nat → Nat → Nat → Nat} (e : E9 V W) : ∀ i, E9 (grindN lg i V) (grindN lg i W) := by
  intro i
  induction i with
  | zero => exact e
  | succ i ih =>
    show E9 (grind1 lg i (grindN lg i V)) (grind1 lg i (grindN lg i W))
    generalize grindN lg i V = A at ih
    generalize grindN lg i W = B at ih
    unfold grind1
    rw [ih (13 + 7 * i) (by omega), ih 7 (by omega), ih (16 + 7 * i) (by omega), ih (14 + 7 * i) (by omega), ih (11 + 7 * i) (by omega), ih (12 + 7 * i) (by omega), ih (17 + 7 * i) (by omega), ih 0 (by omega), ih 10 (by omega)]
    split
    · exact ih.put.put
    · exact ih
theorem E9.end {V W : Nat → Nat} {lh : Nat → Nat → Nat → Nat} {w1 w2 : Bool} (e : E9 V W) : ∀ i, E9 (endN lh w1 h i V) (endN lh w2 h i W) := by
  intro i
  induction i with
  | zero => exact e
  | succ i ih =>
    show E9 (end1 lh w1 h i (endN lh w1 h i V)) (end1 lh w2 h i (endN lh w2 h i W))
    generalize endN lh w1 h i V = A at ih
    generalize endN lh w2 h i W = B at ih
    unfold end1
    rw [ih (16 + 7 * i) (by omega), ih (14 + 7 * i) (by omega), ih (11 + 7 * i) (by omega), ih (12 + 7 * i) (by omega), ih (17 + 7 * i) (by omega), ih.free]
    split
    · split
      · exact ih.put
      · refine E9.put (E9.put ?_)
        split
        · split
          · exact ih.harm.sy.harm.sy
          · exact ih.harm
        · split
          · exact ih.sy.harm.sy
          · exact ih
    · exact ih
theorem E9.rest {V W : Nat → Nat} {lh : Nat → Nat → Nat → Nat} {w1 w2 : Bool} (e : E9 V W) : E9 (restN lh w1 h n V) (restN lh w2 h n W) := by
  have ih := e.end (lh := lh) (w1 := w1) (w2 := w2) (h := h) n
  unfold restN
  rw [ih 7 (by omega), ih 8 (by omega), ih 0 (by omega)]
  exact ih.put.put
theorem E9.pass {V W : Nat → Nat} {lg lh : Nat → Nat → Nat → Nat} {w1 w2 : Bool} (e : E9 V W) : ∀ k, E9 (passN lg lh w1 h n k V) (passN lg lh w2 h n k W) := by
  intro k
  induction k with
  | zero => exact e
  | succ k ih => exact (ih.grind n).rest
end MD
