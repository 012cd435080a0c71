theorem needN_le {kd m : Nat} (hm : m ≤ 9) : needN kd m ≤ 80 := by
  unfold needN
  repeat' split
  all_goals omega
theorem dullN_le {kd : Nat} : dullN kd ≤ 6 := by
  unfold dullN
  repeat' split
  all_goals omega
theorem rv_put {n j x : Nat} {V : Nat → Nat} (h : RV n V) (hj : ∀ q, q < n → j ≠ 11 + 7 * q ∧ j ≠ 12 + 7 * q ∧ j ≠ 13 + 7 * q) (h0 : j ≠ 0 ∧ j ≠ 7 ∧ j ≠ 8 ∧ j ≠ 10) (h9 : j = 9 → x ≤ 99999) (he : ∀ q, q < n → j = 14 + 7 * q → x ≤ 99) (hd : ∀ q, q < n → j = 16 + 7 * q → x ≤ 1) (ha : ∀ q, q < n → j = 17 + 7 * q → x ≤ 999) : RV n (adf V j x) := by
  obtain ⟨h1, h2, h3, h4, h5, h6, h7⟩ := h
  obtain ⟨k0, k7, k8, k10⟩ := h0
  refine ⟨h1, by rw [adf_o (Ne.symm k0)]; exact h2, by rw [adf_o (Ne.symm k7)]; exact h3, by rw [adf_o (Ne.symm k8)]; exact h4, ?_, by rw [adf_o (Ne.symm k10)]; exact h6, fun q hq => ?_⟩
  · by_cases e : j = 9
    · rw [e, adf_s]; exact h9 e
    · rw [adf_o (Ne.symm e)]; exact h5
  · obtain ⟨a1, a2, a3⟩ := hj q hq
    obtain ⟨g1, g2, g3, g4, g5, g6⟩ := h7 q hq
    refine ⟨by rw [adf_o (Ne.symm a1)]; exact g1, by rw [adf_o (Ne.symm a2)]; exact g2, by rw [adf_o (Ne.symm a3)]; exact g3, ?_, ?_, ?_⟩
    · by_cases e : j = 14 + 7 * q
      · rw [e, adf_s]; exact he q hq e
      · rw [adf_o (Ne.symm e)]; exact g4
    · by_cases e : j = 16 + 7 * q
      · rw [e, adf_s]; exact hd q hq e
      · rw [adf_o (Ne.symm e)]; exact g5
    · by_cases e : j = 17 + 7 * q
      · rw [e, adf_s]; exact ha q hq e
      · rw [adf_o (Ne.symm e)]; exact g6
theorem rv_end1 {n q : Nat} {V : Nat → Nat} {lh : Nat → Nat → Nat → Nat} {wh : Bool} {h : Nat → Int32} (hV : RV n V) (hq : q < n) : RV n (end1 lh wh h q V) := by
  unfold end1
  have hq7 := hV.2.2.2.2.2.2 q hq
  by_cases c : V (16 + 7 * q) = 0
  · rw [if_pos c]
    by_cases c2 : needN (V (11 + 7 * q)) (V (12 + 7 * q)) ≤ V (14 + 7 * q) ∧ freeN h q V = true
    · rw [if_pos c2]
      exact rv_put hV (fun r hr => by omega) (by omega) (fun e => by omega) (fun r hr e => by omega) (fun r hr e => by omega) (fun r hr e => by omega)
    · rw [if_neg c2]
      have h9 : RV n (if wh = true then adf V 9 (min 99999 (V 9 + lh (V (14 + 7 * q)) (V (17 + 7 * q)) (V (12 + 7 * q)))) else V) := by
        by_cases c3 : wh = true
        · rw [if_pos c3]
          exact rv_put hV (fun r hr => by omega) (by omega) (fun e => by omega) (fun r hr e => by omega) (fun r hr e => by omega) (fun r hr e => by omega)
        · rw [if_neg c3]; exact hV
      refine rv_put (rv_put h9 (fun r hr => by omega) (by omega) (fun e => by omega) (fun r hr e => by omega) (fun r hr e => by omega) (fun r hr e => by omega)) (fun r hr => by omega) (by omega) (fun e => by omega) (fun r hr e => by omega) (fun r hr e => by omega) (fun r hr e => by omega)
  · rw [if_neg c]; exact hV
theorem rv_endN {n : Nat} {V : Nat → Nat} {lh : Nat → Nat → Nat → Nat} {wh : Bool} {h : Nat → Int32} (hV : RV n V) : ∀ i, i ≤ n → RV n (endN lh wh h i V) := by
  intro i
  induction i with
  | zero => intro _; exact hV
  | succ i ih => intro hi; exact rv_end1 (ih (by omega)) (by omega)
