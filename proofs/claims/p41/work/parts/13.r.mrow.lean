/-! the model's row in numbers -/
def NB (n k : Nat) : Prop := k = 0 ∨ (7 ≤ k ∧ k ≤ 10) ∨ ∃ q w : Nat, q < n ∧ w ≤ 6 ∧ w ≠ 4 ∧ k = 11 + w + 7 * q
def RR (n : Nat) (h : Nat → Int32) (V : Nat → Nat) (f : Nat → Int32) : Prop := f 2 = nI n ∧ (∀ q : Nat, q < n → f (15 + 7 * q) = h q) ∧ ∀ k, NB n k → f k = nI (V k)
theorem NB.one {n q : Nat} (w : Nat) (hq : q < n) (hw : w ≤ 6) (h4 : w ≠ 4) : NB n (11 + w + 7 * q) := Or.inr (Or.inr ⟨q, w, hq, hw, h4, rfl⟩)
theorem RR.put {n j x : Nat} {h : Nat → Int32} {V : Nat → Nat} {M : Mem} (hR : RR n h V (M 80)) (h2 : j ≠ 2) (h4 : ∀ q : Nat, q < n → j ≠ 15 + 7 * q) : RR n h (adf V j x) (up M 80 j (nI x) 80) := by
  obtain ⟨r1, r2, r3⟩ := hR
  refine ⟨by rw [up_slot _ (Ne.symm h2)]; exact r1, fun q hq => by rw [up_slot _ (Ne.symm (h4 q hq))]; exact r2 q hq, fun k hk => ?_⟩
  by_cases e : k = j
  · rw [e, up_same, adf_s]
  · rw [up_slot _ e, adf_o e]; exact r3 k hk
section MR
variable {n q : Nat} {h : Nat → Int32} {V : Nat → Nat} {M X : Mem}
theorem i_it (w k : Nat) {K : Int32 → Mem → Prop} (hn : n ≤ 9) (hR : RR n h V (M 80)) (hq : q < n) (hw : w ≤ 6 ∧ w ≠ 4 ∧ 11 + w + 7 * q = k) (hk : K (nI (V k)) M) : wp_X8_its (nI q) (nI w) M K := by
  obtain ⟨w6, w4, rfl⟩ := hw
  refine m_its w (by omega) ?_
  rw [show 11 + 7 * q + w = 11 + w + 7 * q by omega, hR.2.2 _ (NB.one w hq w6 w4)]
  exact hk
theorem i_on {K : Int32 → Mem → Prop} (hn : n ≤ 9) (hR : RR n h V (M 80)) (hq : q < n) (hk : K (h q) M) : wp_X8_its (nI q) 4 M K := by
  refine m_its 4 (by omega) ?_
  rw [show 11 + 7 * q + 4 = 15 + 7 * q by omega, hR.2.1 q hq]
  exact hk
theorem i_gets (w k x : Nat) {K : Mem → Prop} (hn : n ≤ 9) (hR : RR n h V (M 80)) (hq : q < n) (hw : w ≤ 6 ∧ w ≠ 4 ∧ 11 + w + 7 * q = k) (hk : RR n h (adf V k x) (up M 80 k (nI x) 80) → K (up M 80 k (nI x))) : wp_X8_gets (nI q) (nI w) (nI x) M K := by
  obtain ⟨w6, w4, rfl⟩ := hw
  refine m_gets w (by omega) ?_
  rw [show 11 + 7 * q + w = 11 + w + 7 * q by omega]
  exact hk (hR.put (by omega) (fun r hr => by omega))
theorem m_heldN {a c : Nat} {K : Int32 → Mem → Prop} (ha : a < 2 ^ 30) (hc : c < 2 ^ 30) (hk : K (nI (min c a)) M) : wp_X8_held (nI a) 0 (nI c) M K := by
  unfold wp_X8_held
  refine ⟨fun _ => ⟨fun g => ?_, fun g => ?_⟩, fun g => absurd (show nI 0 ≤ nI a from nI_le (by omega) (by omega)) g⟩
  · have := le_of_nI g ha hc
    rw [show min c a = a by omega] at hk; exact hk
  · have := lt_of_nI g ha hc
    rw [show min c a = c by omega] at hk; exact hk
theorem m_heldS {a b c : Nat} {K : Int32 → Mem → Prop} (ha : a < 2 ^ 30) (hb : b < 2 ^ 30) (hc : c < 2 ^ 30) (hk : K (nI (min c (a - b))) M) : wp_X8_held (nI a - nI b) 0 (nI c) M K := by
  rcases Nat.lt_or_ge a b with g | g
  · unfold wp_X8_held
    rw [show a - b = 0 by omega, show min c 0 = 0 by omega] at hk
    refine ⟨fun r => absurd (Int32.le_iff_toInt_le.mp r) ?_, fun _ => hk⟩
    have h0 : (0 : Int32).toInt = 0 := rfl
    rw [pk_sub_toInt ha hb, h0]; omega
  · rw [pk_sub g]; exact m_heldN (by omega) hc hk
theorem g_gains {K : Int32 → Mem → Prop} (hR : RR n h V (M 80)) (hV : RV n V) (hq : q < n) (hT : TQ 2 0 (M 80) X) (hk : ∀ M1, St SW M M1 → K (nI (gainN (V (11 + 7 * q)) (V (12 + 7 * q)) (tvN 2 X (V (14 + 7 * q)) (V (17 + 7 * q)) (V 0 % 7)) (V (17 + 7 * q)) (V 0))) M1) : wp_X8_gains (nI q) M K := by
  have hn := hV.1
  obtain ⟨v1, v2, v3, v4, v5, v6, v7⟩ := hV
  obtain ⟨w1, w2, w3, w4, w5, w6⟩ := v7 q hq
  have h0 : M 80 0 = nI (V 0) := hR.2.2 0 (Or.inl rfl)
  unfold wp_X8_gains
  refine i_it 1 (12 + 7 * q) hn hR hq (by omega) (i_it 3 (14 + 7 * q) hn hR hq (by omega) (i_it 6 (17 + 7 * q) hn hR hq (by omega) ?_))
  rw [h0, show (7 : Int32) = nI 7 from rfl, pk_rem (by omega) (by omega) (by omega)]
  refine e_lawOf (t := 2) (w := 0) (by omega) hT (fun M1 hs => ?_)
  rw [tvN_eq.1]
  have hv99 := (tvN_eq (t := 2) (M := X) (a := V (14 + 7 * q)) (b := V (17 + 7 * q)) (c := V 0 % 7)).2
  have hk := hk M1 hs
  generalize tvN 2 X (V (14 + 7 * q)) (V (17 + 7 * q)) (V 0 % 7) = v at hk hv99 ⊢
  have hR1 : RR n h V (M1 80) := by rw [hs 80 rfl]; exact hR
  have h01 : M1 80 0 = nI (V 0) := hR1.2.2 0 (Or.inl rfl)
  refine i_it 0 (11 + 7 * q) hn hR1 hq (by omega) ?_
  generalize V (11 + 7 * q) = kd at hk w1 ⊢
  generalize hmm : V (12 + 7 * q) = m at hk w2 ⊢
  rcases (by omega : kd = 0 ∨ kd = 1 ∨ kd = 2 ∨ kd = 3 ∨ kd = 4 ∨ kd = 5 ∨ kd = 6) with rfl | rfl | rfl | rfl | rfl | rfl | rfl
  all_goals repeat (first | refine ⟨fun r => absurd r (by decide), fun _ => ?_⟩ | refine ⟨fun _ => ?_, fun r => absurd rfl r⟩)
  · exact hk
  · rw [nI_add]; exact hk
  · rw [show (2 : Int32) = nI 2 from rfl, pk_mul]; exact hk
  · rw [show (2 : Int32) = nI 2 from rfl, pk_div (by omega) (by omega) (by omega)]; exact hk
  · refine i_it 6 (17 + 7 * q) hn hR1 hq (by omega) ?_
    rw [nI_add, show (10 : Int32) = nI 10 from rfl, pk_div (by omega) (by omega) (by omega)]
    refine m_heldS (c := 200) (by omega) (by omega) (by omega) ?_
    rw [show min 200 (v + m - V (17 + 7 * q) / 10) = v + m - V (17 + 7 * q) / 10 by omega]
    exact hk
  · rw [h01, show (6 : Int32) = nI 6 from rfl, pk_rem (by omega) (by omega) (by omega)]
    have hk : K (nI (if V 0 % 6 = 0 then 0 else 2 * v)) M1 := hk
    refine ⟨fun r => ?_, fun r => ?_⟩
    · rw [if_neg (fun e => r (by rw [e]; rfl))] at hk
      rw [show (2 : Int32) = nI 2 from rfl, pk_mul]; exact hk
    · rw [if_pos ((nI_eq (a := V 0 % 6) (b := 0) (by omega) (by omega)).mp r)] at hk
      exact hk
  · exact hk
theorem g_needs {K : Int32 → Mem → Prop} (hR : RR n h V (M 80)) (hV : RV n V) (hq : q < n) (hk : K (nI (needN (V (11 + 7 * q)) (V (12 + 7 * q)))) M) : wp_X8_needs (nI q) M K := by
  have hn := hV.1
  obtain ⟨w1, w2, w3, w4, w5, w6⟩ := hV.2.2.2.2.2.2 q hq
  unfold wp_X8_needs
  refine i_it 1 (12 + 7 * q) hn hR hq (by omega) (i_it 0 (11 + 7 * q) hn hR hq (by omega) ?_)
  generalize V (11 + 7 * q) = kd at hk w1 ⊢
  generalize V (12 + 7 * q) = m at hk w2 ⊢
  rcases (by omega : kd = 0 ∨ kd = 1 ∨ kd = 2 ∨ kd = 3 ∨ kd = 4 ∨ kd = 5 ∨ kd = 6) with rfl | rfl | rfl | rfl | rfl | rfl | rfl
  all_goals repeat (first | refine ⟨fun r => absurd r (by decide), fun _ => ?_⟩ | refine ⟨fun _ => ?_, fun r => absurd rfl r⟩)
  · exact hk
  · rw [show (2 : Int32) = nI 2 from rfl, show (50 : Int32) = nI 50 from rfl, pk_mul, nI_add]; exact hk
  · exact hk
  · exact hk
  · rw [show (2 : Int32) = nI 2 from rfl, show (55 : Int32) = nI 55 from rfl, pk_mul, nI_add]; exact hk
  · rw [show (30 : Int32) = nI 30 from rfl, nI_add]; exact hk
  · rw [show (80 : Int32) = nI 80 from rfl, pk_sub (by omega)]; exact hk
theorem g_dulls {K : Int32 → Mem → Prop} (hn : n ≤ 9) (hR : RR n h V (M 80)) (hq : q < n) (w1 : V (11 + 7 * q) ≤ 6) (hk : K (nI (dullN (V (11 + 7 * q)))) M) : wp_X8_dulls (nI q) M K := by
  unfold wp_X8_dulls
  refine i_it 0 (11 + 7 * q) hn hR hq (by omega) ?_
  generalize V (11 + 7 * q) = kd at hk w1 ⊢
  rcases (by omega : kd = 0 ∨ kd = 1 ∨ kd = 2 ∨ kd = 3 ∨ kd = 4 ∨ kd = 5 ∨ kd = 6) with rfl | rfl | rfl | rfl | rfl | rfl | rfl
  all_goals repeat (first | refine ⟨fun r => absurd r (by decide), fun _ => ?_⟩ | refine ⟨fun _ => ?_, fun r => absurd rfl r⟩)
  all_goals exact hk
theorem g_over {K : Int32 → Mem → Prop} (hR : RR n h V (M 80)) (hV : RV n V) (hq : q < n) (h1 : V (16 + 7 * q) ≠ 0 → K 1 M) (h0 : V (16 + 7 * q) = 0 → K 0 M) : wp_X8_isOver (nI q) M K := by
  have hn := hV.1
  have w5 := (hV.2.2.2.2.2.2 q hq).2.2.2.2.1
  have ho : M 80 (16 + 7 * q) = nI (V (16 + 7 * q)) := hR.2.2 (16 + 7 * q) (NB.one 5 hq (by omega) (by omega))
  refine m_isOver (by omega) (fun a => h1 (fun e => ?_)) (fun a => h0 ?_)
  · rw [ho, e] at a; exact absurd a (by decide)
  · rcases (by omega : V (16 + 7 * q) = 0 ∨ V (16 + 7 * q) = 1) with e | e
    · exact e
    · rw [ho, e] at a; exact absurd rfl a
theorem g_loose {K : Int32 → Mem → Prop} (hR : RR n h V (M 80)) (hV : RV n V) (hH : HH n h) (hq : q < n) (h1 : freeN h q V = true → K 1 M) (h0 : ¬ freeN h q V = true → K 0 M) : wp_X8_isLoose (nI q) M K := by
  have hn := hV.1
  rw [freeN_iff] at h1 h0
  unfold wp_X8_isLoose
  rcases hH q hq with e | ⟨j, hj, e⟩
  · exact i_on hn hR hq ⟨fun _ => h1 (Or.inl e), fun g => absurd (by rw [e]; decide) g⟩
  · have hne : h q ≠ -1 := by
      rw [e]; intro r
      have := congrArg Int32.toInt r
      rw [nI_toInt (by omega)] at this
      have h3 : (-1 : Int32).toInt = -1 := rfl
      omega
    rw [e, nI_clamp (by omega)] at h1 h0
    rw [e] at hne
    refine i_on hn hR hq ⟨fun g => ?_, fun _ => i_on hn hR hq ?_⟩
    · rw [e] at g; exact absurd g (nI_pos (by omega))
    · rw [e]
      exact g_over hR hV (show j < n by omega) (fun a => b1a (h1 (Or.inr a))) (fun a => b0a (h0 (fun c => c.elim hne (fun d => d a))))
end MR
/-- what a day may change of the model's memory -/
def SMV (M M1 : Mem) : Prop := St SM8 M M1 ∧ ∀ k, VOL k = false → M1 80 k = M 80 k
theorem SMV.rf {M : Mem} : SMV M M := ⟨St.rf, fun _ _ => rfl⟩
theorem SMV.tr {M M1 M2 : Mem} (h : SMV M M1) (h2 : SMV M1 M2) : SMV M M2 := ⟨h.1.tr h2.1, fun k hk => (h2.2 k hk).trans (h.2 k hk)⟩
theorem SMV.w {M M1 M2 : Mem} (h : SMV M M1) (hs : St SW M1 M2) : SMV M M2 := ⟨h.1.tr (hs.w (by simp <;> omega)), fun k hk => by rw [hs 80 rfl]; exact h.2 k hk⟩
theorem SMV.put {k : Nat} {x : Int32} {M M1 : Mem} (h : SMV M M1) (hv : VOL k = true) : SMV M (up M1 80 k x) := ⟨h.1.up rfl, fun j hj => by rw [up_slot _ (fun e => by rw [e, hv] at hj; cases hj)]; exact h.2 j hj⟩
theorem SMV.tq {t w : Nat} {M M1 X : Mem} (h : SMV M M1) (hw : w < 2) (hT : TQ t w (M 80) X) : TQ t w (M1 80) X := by
  refine hT.keep rfl rfl rfl rfl (h.2 _ ?_) (fun j hj => h.2 _ ?_)
  · rcases (by omega : w = 0 ∨ w = 1) with rfl | rfl <;> rfl
  · simp [VOL]; omega
theorem vol_on {q w : Nat} (hq : q < 9) (hw : w = 3 ∨ w = 5 ∨ w = 6) : VOL (11 + w + 7 * q) = true := by simp [VOL]; omega
