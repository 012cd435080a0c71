/-! hand: no other one can hasten an end -/
def AG (C : Nat → Bool) (V W : Nat → Nat) : Prop := V 0 = W 0 ∧ V 7 = W 7 ∧ V 8 = W 8 ∧ ∀ q : Nat, C q = true → ∀ s, 11 ≤ s → s ≤ 17 → V (s + 7 * q) = W (s + 7 * q)
theorem ag_rf {C : Nat → Bool} {V : Nat → Nat} : AG C V V := ⟨rfl, rfl, rfl, fun _ _ _ _ _ => rfl⟩
theorem ag_sy {C : Nat → Bool} {V W : Nat → Nat} (a : AG C V W) : AG C W V := ⟨a.1.symm, a.2.1.symm, a.2.2.1.symm, fun q hq s s1 s2 => (a.2.2.2 q hq s s1 s2).symm⟩
theorem ag_put {C : Nat → Bool} {V W : Nat → Nat} (a : AG C V W) {k x : Nat} : AG C (adf V k x) (adf W k x) := by
  have key : ∀ j, V j = W j → adf V k x j = adf W k x j := fun j e => by
    by_cases c : j = k
    · rw [c, adf_s, adf_s]
    · rw [adf_o c, adf_o c]; exact e
  exact ⟨key _ a.1, key _ a.2.1, key _ a.2.2.1, fun q hq s s1 s2 => key _ (a.2.2.2 q hq s s1 s2)⟩
theorem ag_out {C : Nat → Bool} {V W : Nat → Nat} (a : AG C V W) {k x : Nat} (h0 : k ≠ 0 ∧ k ≠ 7 ∧ k ≠ 8) (hk : ∀ q : Nat, C q = true → k < 11 + 7 * q ∨ 17 + 7 * q < k) : AG C (adf V k x) W :=
  ⟨by rw [adf_o (Ne.symm h0.1)]; exact a.1, by rw [adf_o (Ne.symm h0.2.1)]; exact a.2.1, by rw [adf_o (Ne.symm h0.2.2)]; exact a.2.2.1, fun q hq s s1 s2 => by
    have := hk q hq
    rw [adf_o (by omega)]; exact a.2.2.2 q hq s s1 s2⟩
section AR
variable {C : Nat → Bool} {V W : Nat → Nat} {h : Nat → Int32} {n : Nat} {lg lh : Nat → Nat → Nat → Nat}
theorem ag_grind1 {q : Nat} (a : AG C V W) : AG C (grind1 lg q V) (grind1 lg q W) := by
  obtain ⟨a0, a7, a8, aq⟩ := id a
  by_cases c : C q = true
  · have f : ∀ s, 11 ≤ s → s ≤ 17 → V (s + 7 * q) = W (s + 7 * q) := aq q c
    unfold grind1
    rw [f 13 (by omega) (by omega), a7, f 16 (by omega) (by omega), f 14 (by omega) (by omega), f 11 (by omega) (by omega), f 12 (by omega) (by omega), f 17 (by omega) (by omega), a0]
    split
    · exact ag_sy (ag_out (ag_sy (ag_out (ag_put a) (by omega) (fun r _ => by omega))) (by omega) (fun r _ => by omega))
    · exact a
  · have ne : ∀ r : Nat, C r = true → r ≠ q := fun r hr e => c (by rw [← e]; exact hr)
    have one : ∀ U U' : Nat → Nat, AG C U U' → AG C (grind1 lg q U) U' := fun U U' b => by
      unfold grind1
      split
      · exact ag_out (ag_out b (by omega) (fun r hr => by have := ne r hr; omega)) (by omega) (fun r _ => by omega)
      · exact b
    exact ag_sy (one _ _ (ag_sy (one _ _ a)))
theorem ag_grindN (a : AG C V W) : ∀ i, AG C (grindN lg i V) (grindN lg i W) := by
  intro i
  induction i with
  | zero => exact a
  | succ i ih => exact ag_grind1 ih
def CLo (C : Nat → Bool) (h : Nat → Int32) (n : Nat) : Prop := ∀ q j : Nat, q < n → j < q → C q = true → h q = nI j → C j = true
theorem ag_end1 {q : Nat} (hH : HH n h) (hq : q < n) (hn : n ≤ 9) (hC : CLo C h n) (a : AG C V W) : AG C (end1 lh true h q V) (end1 lh true h q W) := by
  obtain ⟨a0, a7, a8, aq⟩ := id a
  by_cases c : C q = true
  · have f : ∀ s, 11 ≤ s → s ≤ 17 → V (s + 7 * q) = W (s + 7 * q) := aq q c
    have ff : freeN h q V = freeN h q W := by
      unfold freeN
      rcases hH q hq with e | ⟨j, hj, e⟩
      · rw [e]; rfl
      · have hcj := hC q j hq hj c e
        rw [e, nI_clamp (by omega), aq j hcj 16 (by omega) (by omega)]
    unfold end1
    rw [f 16 (by omega) (by omega), f 11 (by omega) (by omega), f 12 (by omega) (by omega), f 14 (by omega) (by omega), f 17 (by omega) (by omega), ff]
    split
    · split
      · exact ag_put a
      · refine ag_put (ag_put ?_)
        rw [if_pos rfl, if_pos rfl]
        exact ag_sy (ag_out (ag_sy (ag_out a (by omega) (fun r _ => by omega))) (by omega) (fun r _ => by omega))
    · exact a
  · have ne : ∀ r : Nat, C r = true → r ≠ q := fun r hr e => c (by rw [← e]; exact hr)
    have one : ∀ U U' : Nat → Nat, AG C U U' → AG C (end1 lh true h q U) U' := fun U U' b => by
      unfold end1
      split
      · split
        · exact ag_out b (by omega) (fun r hr => by have := ne r hr; omega)
        · rw [if_pos rfl]
          exact ag_out (ag_out (ag_out b (by omega) (fun r _ => by omega)) (by omega) (fun r hr => by have := ne r hr; omega)) (by omega) (fun r hr => by have := ne r hr; omega)
      · exact b
    exact ag_sy (one _ _ (ag_sy (one _ _ a)))
theorem ag_endN (hH : HH n h) (hn : n ≤ 9) (hC : CLo C h n) (a : AG C V W) : ∀ i, i ≤ n → AG C (endN lh true h i V) (endN lh true h i W) := by
  intro i
  induction i with
  | zero => intro _; exact a
  | succ i ih => intro hi; exact ag_end1 hH (by omega) hn hC (ih (by omega))
theorem ag_rest (hH : HH n h) (hn : n ≤ 9) (hC : CLo C h n) (a : AG C V W) : AG C (restN lh true h n V) (restN lh true h n W) := by
  have b := ag_endN (lh := lh) hH hn hC a n (Nat.le_refl n)
  unfold restN
  rw [b.1, b.2.1, b.2.2.1]
  exact ag_put (ag_put b)
theorem ag_pass (hH : HH n h) (hn : n ≤ 9) (hC : CLo C h n) (a : AG C V W) : ∀ N, AG C (passN lg lh true h n N V) (passN lg lh true h n N W) := by
  intro N
  induction N with
  | zero => exact a
  | succ N ih => exact ag_rest hH hn hC (ag_grindN ih n)
/-- those of S sharpened -/
def shV (S : Nat → Bool) : Nat → (Nat → Nat) → Nat → Nat
  | 0, V => V
  | m + 1, V => if S m = true then adf (shV S m V) (14 + 7 * m) 99 else shV S m V
theorem shV_o {S : Nat → Bool} {k : Nat} : ∀ m, (∀ q, q < m → k ≠ 14 + 7 * q) → shV S m V k = V k := by
  intro m
  induction m with
  | zero => intro _; rfl
  | succ m ih =>
    intro hk
    show (if S m = true then adf (shV S m V) (14 + 7 * m) 99 else shV S m V) k = V k
    split
    · rw [adf_o (hk m (by omega))]; exact ih (fun q hq => hk q (by omega))
    · exact ih (fun q hq => hk q (by omega))
theorem rv_shV {S : Nat → Bool} (hV : RV n V) : ∀ m, m ≤ n → RV n (shV S m V) := by
  intro m
  induction m with
  | zero => intro _; exact hV
  | succ m ih =>
    intro hm
    show RV n (if S m = true then adf (shV S m V) (14 + 7 * m) 99 else shV S m V)
    split
    · exact (ih (by omega)).putA (s := 14) (by omega) (by omega) (by omega)
    · exact ih (by omega)
theorem ag_shV {S T : Nat → Bool} (hST : ∀ q, C q = true → S q = T q) : ∀ m, AG C (shV S m V) (shV T m V) := by
  intro m
  induction m with
  | zero => exact ag_rf
  | succ m ih =>
    show AG C (if S m = true then adf (shV S m V) (14 + 7 * m) 99 else shV S m V) (if T m = true then adf (shV T m V) (14 + 7 * m) 99 else shV T m V)
    by_cases c : C m = true
    · rw [hST m c]
      split
      · exact ag_put ih
      · exact ih
    · have ne : ∀ r : Nat, C r = true → r ≠ m := fun r hr e => c (by rw [← e]; exact hr)
      have one : ∀ (b : Bool) (U U' : Nat → Nat), AG C U U' → AG C (if b = true then adf U (14 + 7 * m) 99 else U) U' := fun b U U' g => by
        split
        · exact ag_out g (by omega) (fun r hr => by have := ne r hr; omega)
        · exact g
      exact ag_sy (one (T m) _ _ (ag_sy (one (S m) _ _ ih)))
/-- all on which one hangs -/
def itS (h : Nat → Int32) : Nat → (Nat → Bool) → Nat → Bool
  | 0, P => P
  | i + 1, P => itS h i (if P (i + 1) = true ∧ ¬ h (i + 1) < 0 then fun r => P r || decide (r = (h (i + 1)).toNatClampNeg) else P)
theorem itS_up : ∀ i (P : Nat → Bool) r, P r = true → itS h i P r = true := by
  intro i
  induction i with
  | zero => intro P r hr; exact hr
  | succ i ih =>
    intro P r hr
    refine ih _ r ?_
    split
    · show (P r || decide (r = (h (i + 1)).toNatClampNeg)) = true
      rw [hr, Bool.true_or]
    · exact hr
theorem itS_hi (hH : HH n h) (hn : n ≤ 9) : ∀ i (P : Nat → Bool) r, i < n → i ≤ r → itS h i P r = P r := by
  intro i
  induction i with
  | zero => intro P r _ _; rfl
  | succ i ih =>
    intro P r hi hr
    show itS h i (if P (i + 1) = true ∧ ¬ h (i + 1) < 0 then fun r => P r || decide (r = (h (i + 1)).toNatClampNeg) else P) r = P r
    rw [ih _ r (by omega) (by omega)]
    split
    · next c =>
      rcases hH (i + 1) hi with e | ⟨j, hj, e⟩
      · rw [e] at c; exact absurd (by decide) c.2
      · show (P r || decide (r = (h (i + 1)).toNatClampNeg)) = P r
        rw [e, nI_clamp (by omega), decide_eq_false (by omega), Bool.or_false]
    · rfl
theorem itS_cl (hH : HH n h) (hn : n ≤ 9) : ∀ i (P : Nat → Bool), i < n → ∀ r j : Nat, r ≤ i → j < r → itS h i P r = true → h r = nI j → itS h i P j = true := by
  intro i
  induction i with
  | zero => intro P _ r j hr hj; omega
  | succ i ih =>
    intro P hi r j hr hj hP e
    rcases Nat.lt_or_ge r (i + 1) with g | g
    · exact ih _ (by omega) r j (by omega) hj hP e
    · have : r = i + 1 := by omega
      subst this
      have h1 : P (i + 1) = true := by rw [← itS_hi hH hn (i + 1) P (i + 1) hi (Nat.le_refl _)]; exact hP
      show itS h i (if P (i + 1) = true ∧ ¬ h (i + 1) < 0 then fun r => P r || decide (r = (h (i + 1)).toNatClampNeg) else P) j = true
      refine itS_up i _ j ?_
      rw [if_pos ⟨h1, by rw [e]; exact nI_pos (by omega)⟩]
      show (P j || decide (j = (h (i + 1)).toNatClampNeg)) = true
      rw [e, nI_clamp (by omega), decide_eq_true rfl, Bool.or_true]
theorem itS_le (hH : HH n h) (hn : n ≤ 9) : ∀ i (P : Nat → Bool) (q : Nat), i < n → i ≤ q → (∀ r, P r = true → r ≤ q) → ∀ r, itS h i P r = true → r ≤ q := by
  intro i
  induction i with
  | zero => intro P q _ _ hP r hr; exact hP r hr
  | succ i ih =>
    intro P q hi hq hP r hr
    refine ih _ q (by omega) (by omega) ?_ r hr
    intro r' hr'
    split at hr'
    · next c =>
      rcases hH (i + 1) hi with e | ⟨j, hj, e⟩
      · rw [e] at c; exact absurd (by decide) c.2
      · have hr' : (P r' || decide (r' = (h (i + 1)).toNatClampNeg)) = true := hr'
        rw [e, nI_clamp (by omega), Bool.or_eq_true] at hr'
        rcases hr' with g | g
        · exact hP r' g
        · have := of_decide_eq_true g; omega
    · exact hP r' hr'
def chC (h : Nat → Int32) (q : Nat) : Nat → Bool := itS h q (fun r => decide (r = q))
theorem chC_cl {q : Nat} (hH : HH n h) (hn : n ≤ 9) (hq : q < n) : CLo (chC h q) h n := fun r j hr hj hc e => by
  have hle : r ≤ q := itS_le hH hn q _ q hq (Nat.le_refl q) (fun r hr => by have := of_decide_eq_true hr; omega) r hc
  exact itS_cl hH hn q _ hq r j hle hj hc e
theorem chC_q {q : Nat} : chC h q q = true := itS_up q _ q (decide_eq_true rfl)
theorem chC_lt {q r : Nat} (hH : HH n h) (hn : n ≤ 9) (hq : q < n) (hr : chC h q r = true) : r ≤ q := itS_le hH hn q _ q hq (Nat.le_refl q) (fun r hr => by have := of_decide_eq_true hr; omega) r hr
end AR
