/-! the calls that look ahead, with equal answers -/
def GH (n : Nat) (h : Nat → Int32) (V : Nat → Nat) (X M : Mem) : Prop := RR n h V (M 80) ∧ RV n V ∧ HH n h ∧ TQ 2 0 (M 80) X ∧ TQ 7 1 (M 80) X ∧ V 0 ≤ 9999
theorem SA.gh {n b t : Nat} {V : Nat → Nat} {h : Nat → Int32} {M M1 : Mem} (hS : SA 1 80 n b t V h M) (e : M1 80 = M 80) : GH n h V M M1 := ⟨by rw [e]; exact hS.2.2.1, hS.rv, hS.hh, by rw [e]; exact hS.t0, by rw [e]; exact hS.t1, hS.v0⟩
theorem ends_9 {lg lh : Nat → Nat → Nat → Nat} {h : Nat → Int32} {n N : Nat} {V : Nat → Nat} : endM (passN lg lh false h n N V) n = endM (passN lg lh true h n N V) n := endM_congr n (fun q _ => E9.pass E9.rf N _ (by omega))
theorem pass_9 {lg lh : Nat → Nat → Nat → Nat} {h : Nat → Int32} {n N k : Nat} {V : Nat → Nat} (hk : k ≠ 9) : passN lg lh false h n N V k = passN lg lh true h n N V k := E9.pass E9.rf N _ hk
section AH
variable {n b t i : Nat} {h : Nat → Int32} {V : Nat → Nat} {M X : Mem} {K : Int32 → Mem → Prop}
theorem u_over {N : Nat} (hN : N ≤ 60) (hR : RR n h V (M 80)) (hV : RV n V) (hH : HH n h) (hT2 : TQ 2 0 (M 80) X) (hT7 : TQ 7 1 (M 80) X) (h9 : V 0 ≤ 10100) (hk : ∀ M1, St SMz M M1 → K (nI (endM (passN (tvN 2 X) (tvN 7 X) true h n N V) n)) M1) : wp_X8_overBehind (nI N) M K := by
  unfold wp_X8_overBehind
  refine u_go St.rf hR (fun M1 h1 => u_passes hN h1 hV h9 hH hT2 hT7 (fun M2 h2 => ?_))
  exact g_overSet h2.2.2.2 (rv_pass hV N (by omega)).1 (u_back h2 (fun M3 h3 => hk M3 h3))
/-! ended -/
def endedA (lg lh : Nat → Nat → Nat → Nat) (h : Nat → Int32) (n : Nat) (V : Nat → Nat) (a : Int32) : Ans := if 0 ≤ a.toInt ∧ a.toInt ≤ 60 then (nI (endM (passN lg lh true h n a.toNatClampNeg V) n), 0) else erA 1
theorem C_ended {a : Int32} (hS : SA 1 80 n b t V h M) (hk : ∀ M1, PC (endedA (tvN 2 M) (tvN 7 M) h n V a).2 M M1 → K (endedA (tvN 2 M) (tvN 7 M) h n V a).1 M1) : wp_X7_ended a M K := by
  have h9 := hS.v0
  unfold wp_X7_ended
  unfold endedA at hk
  refine w7n 0 60 (by decide) (by decide) (fun g1 g2 => ?_) (fun g => ?_)
  · rw [if_pos ⟨g1, g2⟩] at hk
    obtain ⟨N, hN, rfl⟩ := nat_of 60 g1 g2 (by decide)
    rw [nI_clamp (by omega)] at hk
    refine k_think hS.sc St.rf (fun M1 h1 => k_days hN hS.sc hS.rv (by omega) h1 (fun M2 h2 => k_setEnded GF49 h2.2.1 (rv_pass hS.rv N (by omega)).1 ?_))
    rw [ends_9]; exact hk _ (PC.of h2.1)
  · rw [if_neg g] at hk
    exact e7A (i := 1) (by omega) (by omega) (by decide) St.rf hk
theorem G_ended {a : Int32} (hG : GH n h V X M) (hk : ∀ M1, PM (endedA (tvN 2 X) (tvN 7 X) h n V a).2 M M1 → K (endedA (tvN 2 X) (tvN 7 X) h n V a).1 M1) : wp_X8_ended a M K := by
  obtain ⟨hR, hV, hH, hT2, hT7, h9⟩ := hG
  unfold wp_X8_ended
  unfold endedA at hk
  refine w8z 0 60 (by decide) (by decide) (fun g1 g2 => ?_) (fun g => ?_)
  · rw [if_pos ⟨g1, g2⟩] at hk
    obtain ⟨N, hN, rfl⟩ := nat_of 60 g1 g2 (by decide)
    rw [nI_clamp (by omega)] at hk
    exact u_over hN hR hV hH hT2 hT7 (by omega) (fun M1 h1 => hk _ (PM.of h1))
  · rw [if_neg g] at hk
    exact e8A (i := 1) (by omega) (by omega) (by decide) St.rf hk
theorem z3_ended {a : Int32} (hI : Inv2 i M) : wp_X7_ended a M (fun r1 M1 => wp_X8_ended a M1 (fun r2 M2 => r1 = r2 ∧ Inv2 (i + 1) M2)) := by
  obtain ⟨n, b, t, V, h, hS⟩ := hI.2.1
  exact z_of (A := endedA (tvN 2 M) (tvN 7 M) h n V a) (W7 := wp_X7_ended a) (W8 := wp_X8_ended a) hI (fun K hk => C_ended hS hk) (fun M1 h1 K hk => G_ended (hS.gh (h1 80 rfl)) hk)
/-! fee -/
def feeA (lg lh : Nat → Nat → Nat → Nat) (h : Nat → Int32) (n : Nat) (V : Nat → Nat) (a : Int32) : Ans := if 0 ≤ a.toInt ∧ a.toInt ≤ 60 then (nI (passN lg lh true h n a.toNatClampNeg V 10) - nI (V 10), 0) else erA 1
theorem C_fee {a : Int32} (hS : SA 1 80 n b t V h M) (hk : ∀ M1, PC (feeA (tvN 2 M) (tvN 7 M) h n V a).2 M M1 → K (feeA (tvN 2 M) (tvN 7 M) h n V a).1 M1) : wp_X7_fee a M K := by
  have h9 := hS.v0
  unfold wp_X7_fee
  unfold feeA at hk
  refine w7n 0 60 (by decide) (by decide) (fun g1 g2 => ?_) (fun g => ?_)
  · rw [if_pos ⟨g1, g2⟩] at hk
    obtain ⟨N, hN, rfl⟩ := nat_of 60 g1 g2 (by decide)
    rw [nI_clamp (by omega)] at hk
    refine k_think hS.sc St.rf (fun M1 h1 => k_days hN hS.sc hS.rv (by omega) h1 (fun M2 h2 => ?_))
    have e1 : M2 12 8 = nI (V 10) := by rw [h2.1 12 rfl]; exact hS.1.2.2.2.2.1
    rw [h2.2.1.2.2.2.2.1, e1, pass_9 (by omega)]
    exact hk _ (PC.of h2.1)
  · rw [if_neg g] at hk
    exact e7A (i := 1) (by omega) (by omega) (by decide) St.rf hk
theorem G_fee {a : Int32} (hG : GH n h V X M) (hk : ∀ M1, PM (feeA (tvN 2 X) (tvN 7 X) h n V a).2 M M1 → K (feeA (tvN 2 X) (tvN 7 X) h n V a).1 M1) : wp_X8_fee a M K := by
  obtain ⟨hR, hV, hH, hT2, hT7, h9⟩ := hG
  unfold wp_X8_fee
  unfold feeA at hk
  refine w8n 0 60 (by decide) (by decide) (fun g1 g2 => ?_) (fun g => ?_)
  · rw [if_pos ⟨g1, g2⟩] at hk
    obtain ⟨N, hN, rfl⟩ := nat_of 60 g1 g2 (by decide)
    rw [nI_clamp (by omega)] at hk
    refine u_go St.rf hR (fun M1 h1 => u_passes hN h1 hV (by omega) hH hT2 hT7 (fun M2 h2 => u_back h2 (fun M3 h3 => ?_)))
    rw [h2.2.2.2.2.2 10 (Or.inr (Or.inl (by omega))), h2.2.1 10 (by omega), hR.2.2 10 (Or.inr (Or.inl (by omega)))]
    exact hk _ (PM.of h3)
  · rw [if_neg g] at hk
    exact e8A (i := 1) (by omega) (by omega) (by decide) St.rf hk
theorem z3_fee {a : Int32} (hI : Inv2 i M) : wp_X7_fee a M (fun r1 M1 => wp_X8_fee a M1 (fun r2 M2 => r1 = r2 ∧ Inv2 (i + 1) M2)) := by
  obtain ⟨n, b, t, V, h, hS⟩ := hI.2.1
  exact z_of (A := feeA (tvN 2 M) (tvN 7 M) h n V a) (W7 := wp_X7_fee a) (W8 := wp_X8_fee a) hI (fun K hk => C_fee hS hk) (fun M1 h1 K hk => G_fee (hS.gh (h1 80 rfl)) hk)
/-! then -/
def thenS (w : Nat) : Nat := if w = 0 then 14 else if w = 1 then 16 else 17
def thenA (lg lh : Nat → Nat → Nat → Nat) (h : Nat → Int32) (n : Nat) (V : Nat → Nat) (a q c : Int32) : Ans := if (0 ≤ a.toInt ∧ a.toInt ≤ 60) ∧ (0 ≤ q.toInt ∧ q.toInt < n) ∧ 0 ≤ c.toInt ∧ c.toInt ≤ 2 then (nI (passN lg lh true h n a.toNatClampNeg V (thenS c.toNatClampNeg + 7 * q.toNatClampNeg)), 0) else erA 1
theorem C_then {a q c : Int32} (hS : SA 1 80 n b t V h M) (hk : ∀ M1, PC (thenA (tvN 2 M) (tvN 7 M) h n V a q c).2 M M1 → K (thenA (tvN 2 M) (tvN 7 M) h n V a q c).1 M1) : wp_X7_then a q c M K := by
  have h9 := hS.v0
  have hn := hS.rv.1
  unfold wp_X7_then
  unfold thenA at hk
  have bad : ¬ ((0 ≤ a.toInt ∧ a.toInt ≤ 60) ∧ (0 ≤ q.toInt ∧ q.toInt < n) ∧ 0 ≤ c.toInt ∧ c.toInt ≤ 2) → wp_X7_refuse (-1000000001) M K := fun g => by
    rw [if_neg g] at hk
    exact e7A (i := 1) (by omega) (by omega) (by decide) St.rf hk
  refine w7z 0 60 (by decide) (by decide) (fun g1 g2 => ?_) (fun g => bad (fun x => g x.1))
  refine q7z hn hS.1.1 (fun j hj ej => ?_) (fun g => bad (fun x => g x.2.1))
  refine w7n 0 2 (by decide) (by decide) (fun g3 g4 => ?_) (fun g => bad (fun x => g x.2.2))
  rw [if_pos ⟨⟨g1, g2⟩, by rw [ej, nI_toInt (by omega)]; omega, g3, g4⟩] at hk
  obtain ⟨N, hN, rfl⟩ := nat_of 60 g1 g2 (by decide)
  obtain ⟨w, hw, rfl⟩ := nat_of 2 g3 g4 (by decide)
  subst ej
  rw [nI_clamp (by omega), nI_clamp (by omega), nI_clamp (by omega)] at hk
  refine k_think hS.sc St.rf (fun M1 h1 => k_days hN hS.sc hS.rv (by omega) h1 (fun M2 h2 => ⟨vp_in_nI (by omega) (by decide), ?_⟩))
  have hv := (rv_pass (lg := tvN 2 M) (lh := tvN 7 M) (wh := false) (h := h) hS.rv N (by omega)).1
  have w5 := (hv.2.2.2.2.2.2 j hj).2.2.2.2.1
  obtain ⟨p1, p2, p3, p4, p5, p6, p7⟩ := h2.2.1.2.2.2.2.2 j hj
  have hk := hk M2 (PC.of h2.1)
  rw [nI_clamp (by omega)]
  have p4 : M2 (51 + j) 3 = nI (passN (tvN 2 M) (tvN 7 M) true h n N V (14 + 7 * j)) := by rw [← pass_9 (by omega)]; exact p4
  have p6 : M2 (51 + j) 6 = nI (passN (tvN 2 M) (tvN 7 M) true h n N V (16 + 7 * j)) := by rw [← pass_9 (by omega)]; exact p6
  have p7 : M2 (51 + j) 5 = nI (passN (tvN 2 M) (tvN 7 M) true h n N V (17 + 7 * j)) := by rw [← pass_9 (by omega)]; exact p7
  rw [pass_9 (by omega)] at w5
  rw [p4, p6, p7]
  rcases (by omega : w = 0 ∨ w = 1 ∨ w = 2) with rfl | rfl | rfl
  · exact ⟨fun _ => hk, fun e => absurd rfl e⟩
  · refine ⟨fun e => absurd e (by decide), fun _ => ⟨fun _ => ⟨fun e => ?_, fun e => ?_⟩, fun e => absurd rfl e⟩⟩
    · have : passN (tvN 2 M) (tvN 7 M) true h n N V (16 + 7 * j) = 0 := (nI_eq (b := 0) (by omega) (by omega)).mp e
      have hk : K (nI (passN (tvN 2 M) (tvN 7 M) true h n N V (16 + 7 * j))) M2 := hk
      rw [this] at hk; exact hk
    · have : passN (tvN 2 M) (tvN 7 M) true h n N V (16 + 7 * j) = 1 := by
        rcases (by omega : passN (tvN 2 M) (tvN 7 M) true h n N V (16 + 7 * j) = 0 ∨ passN (tvN 2 M) (tvN 7 M) true h n N V (16 + 7 * j) = 1) with g | g
        · exact absurd (by rw [g]; rfl) e
        · exact g
      have hk : K (nI (passN (tvN 2 M) (tvN 7 M) true h n N V (16 + 7 * j))) M2 := hk
      rw [this] at hk; exact hk
  · exact ⟨fun e => absurd e (by decide), fun _ => ⟨fun e => absurd e (by decide), fun _ => hk⟩⟩
theorem G_then {a q c : Int32} (hG : GH n h V X M) (hk : ∀ M1, PM (thenA (tvN 2 X) (tvN 7 X) h n V a q c).2 M M1 → K (thenA (tvN 2 X) (tvN 7 X) h n V a q c).1 M1) : wp_X8_then a q c M K := by
  obtain ⟨hR, hV, hH, hT2, hT7, h9⟩ := hG
  have hn := hV.1
  unfold wp_X8_then
  unfold thenA at hk
  have bad : ¬ ((0 ≤ a.toInt ∧ a.toInt ≤ 60) ∧ (0 ≤ q.toInt ∧ q.toInt < n) ∧ 0 ≤ c.toInt ∧ c.toInt ≤ 2) → wp_X8_errs (-1000000001) M K := fun g => by
    rw [if_neg g] at hk
    exact e8A (i := 1) (by omega) (by omega) (by decide) St.rf hk
  refine w8z 0 60 (by decide) (by decide) (fun g1 g2 => ?_) (fun g => bad (fun x => g x.1))
  refine q8z hn hR.1 (fun j hj ej => ?_) (fun g => bad (fun x => g x.2.1))
  refine w8n 0 2 (by decide) (by decide) (fun g3 g4 => ?_) (fun g => bad (fun x => g x.2.2))
  rw [if_pos ⟨⟨g1, g2⟩, by rw [ej, nI_toInt (by omega)]; omega, g3, g4⟩] at hk
  obtain ⟨N, hN, rfl⟩ := nat_of 60 g1 g2 (by decide)
  obtain ⟨w, hw, rfl⟩ := nat_of 2 g3 g4 (by decide)
  subst ej
  rw [nI_clamp (by omega), nI_clamp (by omega), nI_clamp (by omega)] at hk
  refine u_go St.rf hR (fun M1 h1 => u_passes hN h1 hV (by omega) hH hT2 hT7 (fun M2 h2 => ?_))
  rcases (by omega : w = 0 ∨ w = 1 ∨ w = 2) with rfl | rfl | rfl
  · exact ⟨fun e => absurd rfl e, fun _ => i_it 3 (14 + 7 * j) hn h2.2.2.2 hj (by omega) (u_back h2 (fun M3 h3 => hk _ (PM.of h3)))⟩
  · exact ⟨fun _ => ⟨fun e => absurd rfl e, fun _ => i_it 5 (16 + 7 * j) hn h2.2.2.2 hj (by omega) (u_back h2 (fun M3 h3 => hk _ (PM.of h3)))⟩, fun e => absurd e (by decide)⟩
  · exact ⟨fun _ => ⟨fun _ => i_it 6 (17 + 7 * j) hn h2.2.2.2 hj (by omega) (u_back h2 (fun M3 h3 => hk _ (PM.of h3))), fun e => absurd e (by decide)⟩, fun e => absurd e (by decide)⟩
theorem z3_then {a q c : Int32} (hI : Inv2 i M) : wp_X7_then a q c M (fun r1 M1 => wp_X8_then a q c M1 (fun r2 M2 => r1 = r2 ∧ Inv2 (i + 1) M2)) := by
  obtain ⟨n, b, t, V, h, hS⟩ := hI.2.1
  exact z_of (A := thenA (tvN 2 M) (tvN 7 M) h n V a q c) (W7 := wp_X7_then a q c) (W8 := wp_X8_then a q c) hI (fun K hk => C_then hS hk) (fun M1 h1 K hk => G_then (hS.gh (h1 80 rfl)) hk)
/-! when: the first of r from i on that P says -/
def fnd (P : Nat → Bool) : Nat → Nat → Nat
  | i, 0 => i
  | i, r + 1 => if P i = true then i else fnd P (i + 1) r
theorem fnd_y {P : Nat → Bool} {i r : Nat} (h : P i = true) : fnd P i (r + 1) = i := if_pos h
theorem fnd_n {P : Nat → Bool} {i r : Nat} (h : ¬ P i = true) : fnd P i (r + 1) = fnd P (i + 1) r := if_neg h
theorem fnd_le {P : Nat → Bool} : ∀ r i, fnd P i r ≤ i + r := by
  intro r
  induction r with
  | zero => intro i; exact Nat.le_refl _
  | succ r ih =>
    intro i
    show (if P i = true then i else fnd P (i + 1) r) ≤ _
    split
    · omega
    · have := ih (i + 1); omega
def whenA (lg lh : Nat → Nat → Nat → Nat) (h : Nat → Int32) (n : Nat) (V : Nat → Nat) (q : Int32) : Ans := if 0 ≤ q.toInt ∧ q.toInt < n then (if fnd (fun d => decide (passN lg lh true h n d V (16 + 7 * q.toNatClampNeg) ≠ 0)) 0 61 ≤ 60 then (nI (fnd (fun d => decide (passN lg lh true h n d V (16 + 7 * q.toNatClampNeg) ≠ 0)) 0 61), 0) else erA 2) else erA 1
theorem C_when {q : Int32} (hS : SA 1 80 n b t V h M) (hk : ∀ M1, PC (whenA (tvN 2 M) (tvN 7 M) h n V q).2 M M1 → K (whenA (tvN 2 M) (tvN 7 M) h n V q).1 M1) : wp_X7_when q M K := by
  have h9 := hS.v0
  have hn := hS.rv.1
  unfold wp_X7_when
  unfold whenA at hk
  refine q7n hn hS.1.1 (fun j hj ej => ?_) (fun g => ?_)
  · rw [if_pos (by rw [ej, nI_toInt (by omega)]; omega)] at hk
    subst ej
    rw [nI_clamp (by omega)] at hk
    generalize hP : (fun d => decide (passN (tvN 2 M) (tvN 7 M) true h n d V (16 + 7 * j) ≠ 0)) = P at hk
    refine k_think hS.sc St.rf (fun M1 h1 => ?_)
    refine loopN (L := fun k i M' => wp_X7_when_L21 K (nI j) k i M') 61 (fun i M' => TH n h (passN (tvN 2 M) (tvN 7 M) false h n i V) M M' ∧ fnd P 0 61 = fnd P i (61 - i)) ?_ 0 (Nat.zero_le _) ⟨h1, rfl⟩
    intro i M' k hi hs ih
    obtain ⟨hs, he⟩ := hs
    show wp_X7_when_l21 K (nI j) (wp_X7_when_L21 K (nI j) k) (nI i) M'
    unfold wp_X7_when_l21
    have hv := (rv_pass (lg := tvN 2 M) (lh := tvN 7 M) (wh := false) (h := h) hS.rv i (by omega)).1
    refine pk_lt 60 i (fun g => ?_) (fun g => ⟨vp_in_nI (by omega) (by decide), ?_⟩)
    · have : i = 61 := by omega
      subst this
      have hf : fnd P 0 61 = 61 := he
      rw [hf, if_neg (by omega)] at hk
      exact e7A (i := 2) (by omega) (by omega) (by decide) hs.1 hk
    · have hsub : 61 - i = (61 - (i + 1)) + 1 := by omega
      rw [hsub] at he
      have p6 : M' (51 + j) 6 = nI (passN (tvN 2 M) (tvN 7 M) true h n i V (16 + 7 * j)) := by rw [← pass_9 (by omega)]; exact (hs.2.1.2.2.2.2.2 j hj).2.2.2.2.2.1
      have w5 := (hv.2.2.2.2.2.2 j hj).2.2.2.2.1
      rw [pass_9 (by omega)] at w5
      rw [nI_clamp (by omega), p6]
      refine ⟨fun e => ?_, fun e => ?_⟩
      · have h0 : passN (tvN 2 M) (tvN 7 M) true h n i V (16 + 7 * j) = 0 := (nI_eq (b := 0) (by omega) (by omega)).mp e
        have he := he.trans (fnd_n (by rw [← hP]; simp [h0]))
        rw [nI_1]
        exact k_pass (wh := false) rfl hS.sc hv hs (fun M2 h2 => ih _ (by omega) ⟨h2, he⟩)
      · have h0 : passN (tvN 2 M) (tvN 7 M) true h n i V (16 + 7 * j) ≠ 0 := fun c => e (by rw [c]; rfl)
        have he := he.trans (fnd_y (by rw [← hP]; simp [h0]))
        rw [he, if_pos (by omega)] at hk
        exact hk _ (PC.of hs.1)
  · rw [if_neg g] at hk
    exact e7A (i := 1) (by omega) (by omega) (by decide) St.rf hk
theorem G_when {q : Int32} (hG : GH n h V X M) (hk : ∀ M1, PM (whenA (tvN 2 X) (tvN 7 X) h n V q).2 M M1 → K (whenA (tvN 2 X) (tvN 7 X) h n V q).1 M1) : wp_X8_when q M K := by
  obtain ⟨hR, hV, hH, hT2, hT7, h9⟩ := hG
  have hn := hV.1
  unfold wp_X8_when
  unfold whenA at hk
  refine q8n hn hR.1 (fun j hj ej => ?_) (fun g => ?_)
  · rw [if_pos (by rw [ej, nI_toInt (by omega)]; omega)] at hk
    subst ej
    rw [nI_clamp (by omega)] at hk
    generalize hP : (fun d => decide (passN (tvN 2 X) (tvN 7 X) true h n d V (16 + 7 * j) ≠ 0)) = P at hk
    refine u_go St.rf hR (fun M1 h1 => ?_)
    refine loopN (L := fun k i M' => wp_X8_when_L29 K (nI j) k i M') 61 (fun i M' => GT n h (passN (tvN 2 X) (tvN 7 X) true h n i V) M M' ∧ fnd P 0 61 = fnd P i (61 - i)) ?_ 0 (Nat.zero_le _) ⟨h1, rfl⟩
    intro i M' k hi hs ih
    obtain ⟨hs, he⟩ := hs
    show wp_X8_when_l29 K (nI j) (wp_X8_when_L29 K (nI j) k) (nI i) M'
    unfold wp_X8_when_l29
    have hv := (rv_pass (lg := tvN 2 X) (lh := tvN 7 X) (wh := true) (h := h) hV i (by omega)).1
    refine pk_lt 60 i (fun g => u_back hs (fun M3 h3 => pk_le i 60 (fun g' => by omega) (fun _ => ?_))) (fun g => ?_)
    · have : i = 61 := by omega
      subst this
      have hf : fnd P 0 61 = 61 := he
      rw [hf, if_neg (by omega)] at hk
      exact e8A (i := 2) (by omega) (by omega) (by decide) h3 hk
    · have hsub : 61 - i = (61 - (i + 1)) + 1 := by omega
      rw [hsub] at he
      refine g_over hs.2.2.2 hv hj (fun h0 => b1b (u_back hs (fun M3 h3 => pk_le i 60 (fun _ => ?_) (fun g' => by omega)))) (fun h0 => b0b ?_)
      · have he := he.trans (fnd_y (by rw [← hP]; simp [h0]))
        rw [he, if_pos (by omega)] at hk
        exact hk _ (PM.of h3)
      · have he := he.trans (fnd_n (by rw [← hP]; simp [h0]))
        rw [nI_1]
        exact u_day (by decide) hs hv hH hT2 hT7 (fun M2 h2 => ih _ (by omega) ⟨h2, he⟩)
  · rw [if_neg g] at hk
    exact e8A (i := 1) (by omega) (by omega) (by decide) St.rf hk
theorem z3_when {q : Int32} (hI : Inv2 i M) : wp_X7_when q M (fun r1 M1 => wp_X8_when q M1 (fun r2 M2 => r1 = r2 ∧ Inv2 (i + 1) M2)) := by
  obtain ⟨n, b, t, V, h, hS⟩ := hI.2.1
  exact z_of (A := whenA (tvN 2 M) (tvN 7 M) h n V q) (W7 := wp_X7_when q) (W8 := wp_X8_when q) hI (fun K hk => C_when hS hk) (fun M1 h1 K hk => G_when (hS.gh (h1 80 rfl)) hk)
/-! off -/
def offA (lg lh : Nat → Nat → Nat → Nat) (h : Nat → Int32) (n : Nat) (V : Nat → Nat) (a : Int32) : Ans := if 0 ≤ a.toInt ∧ a.toInt ≤ 60 then (if a.toNatClampNeg = 0 then (0, 0) else (nI (passN lg lh true h n (a.toNatClampNeg - 1) (restN lh true h n V) 9) - nI (passN lg lh true h n a.toNatClampNeg V 9), 0)) else erA 1
theorem C_off {a : Int32} (hS : SA 1 80 n b t V h M) (hk : ∀ M1, PC (offA (tvN 2 M) (tvN 7 M) h n V a).2 M M1 → K (offA (tvN 2 M) (tvN 7 M) h n V a).1 M1) : wp_X7_off a M K := by
  have h9 := hS.v0
  unfold wp_X7_off
  unfold offA at hk
  refine w7n 0 60 (by decide) (by decide) (fun g1 g2 => ?_) (fun g => ?_)
  · rw [if_pos ⟨g1, g2⟩] at hk
    obtain ⟨N, hN, rfl⟩ := nat_of 60 g1 g2 (by decide)
    rw [nI_clamp (by omega)] at hk
    refine k_think hS.sc St.rf (fun M1 h1 => k_daysH hN hS.sc hS.rv (by omega) h1 (fun M2 h2 => k_think hS.sc h2.1 (fun M3 h3 => pk_le N 0 (fun q => ?_) (fun q => ?_))))
    · have : N = 0 := by omega
      subst this
      rw [if_pos rfl] at hk
      have e : M3 49 7 - M2 49 7 = 0 := by
        rw [h3.2.2, h2.2.2]
        show nI (V 9) - nI (V 9) = 0
        rw [Int32.sub_self]
      rw [e]; exact hk _ (PC.of h3.1)
    · rw [if_neg (by omega)] at hk
      obtain ⟨N, rfl⟩ : ∃ m, N = m + 1 := ⟨N - 1, by omega⟩
      rw [nI_pred]
      have hr := rv_rest (lh := tvN 7 M) (wh := true) (h := h) hS.rv (by omega)
      have hr0 : restN (tvN 7 M) true h n V 0 = V 0 + 1 := rest_0
      refine k_rest hS.sc hS.rv h3 (fun M4 h4 => k_daysH (by omega) hS.sc hr (by omega) h4 (fun M5 h5 => ?_))
      rw [h5.2.2, h2.2.2]
      exact hk _ (PC.of h5.1)
  · rw [if_neg g] at hk
    exact e7A (i := 1) (by omega) (by omega) (by decide) St.rf hk
theorem G_off {a : Int32} (hG : GH n h V X M) (hk : ∀ M1, PM (offA (tvN 2 X) (tvN 7 X) h n V a).2 M M1 → K (offA (tvN 2 X) (tvN 7 X) h n V a).1 M1) : wp_X8_off a M K := by
  obtain ⟨hR, hV, hH, hT2, hT7, h9⟩ := hG
  unfold wp_X8_off
  unfold offA at hk
  refine w8n 0 60 (by decide) (by decide) (fun g1 g2 => ?_) (fun g => ?_)
  · rw [if_pos ⟨g1, g2⟩] at hk
    obtain ⟨N, hN, rfl⟩ := nat_of 60 g1 g2 (by decide)
    rw [nI_clamp (by omega)] at hk
    refine ⟨fun e => ?_, fun e => ?_⟩
    · have hne : N ≠ 0 := fun c => e (by rw [c]; rfl)
      rw [if_neg hne] at hk
      obtain ⟨N, rfl⟩ : ∃ m, N = m + 1 := ⟨N - 1, by omega⟩
      rw [nI_pred]
      have hr := rv_rest (lh := tvN 7 X) (wh := true) (h := h) hV (by omega)
      have hr0 : restN (tvN 7 X) true h n V 0 = V 0 + 1 := rest_0
      refine u_go St.rf hR (fun M1 h1 => u_day0 h1 hV hH hT7 (fun M2 h2 => u_passes (by omega) h2 hr (by omega) hH hT2 hT7 (fun M3 h3 => u_back2 h3 hR (fun M4 s4 h4 => u_passes hN h4 hV (by omega) hH hT2 hT7 (fun M5 h5 => u_back h5 (fun M6 s6 => ?_))))))
      rw [h3.2.2.2.2.2 9 (Or.inr (Or.inl (by omega))), h5.2.2.2.2.2 9 (Or.inr (Or.inl (by omega)))]
      exact hk _ (PM.of s6)
    · have : N = 0 := (nI_eq (a := N) (b := 0) (by omega) (by omega)).mp e
      subst this
      rw [if_pos rfl] at hk
      exact hk _ (PM.of St.rf)
  · rw [if_neg g] at hk
    exact e8A (i := 1) (by omega) (by omega) (by decide) St.rf hk
theorem z3_off {a : Int32} (hI : Inv2 i M) : wp_X7_off a M (fun r1 M1 => wp_X8_off a M1 (fun r2 M2 => r1 = r2 ∧ Inv2 (i + 1) M2)) := by
  obtain ⟨n, b, t, V, h, hS⟩ := hI.2.1
  exact z_of (A := offA (tvN 2 M) (tvN 7 M) h n V a) (W7 := wp_X7_off a) (W8 := wp_X8_off a) hI (fun K hk => C_off hS hk) (fun M1 h1 K hk => G_off (hS.gh (h1 80 rfl)) hk)
end AH
