theorem endM_bit {V : Nat → Nat} : ∀ m j, j < m → endM V m / 2 ^ j % 2 = if V (16 + 7 * j) ≠ 0 then 1 else 0 := by
  intro m
  induction m with
  | zero => intro j hj; omega
  | succ m ih =>
    intro j hj
    have hl := endM_lt (V := V) m
    rw [endM_s]
    rcases Nat.lt_or_ge j m with g | g
    · have hp : 2 ^ m = 2 ^ j * (2 * 2 ^ (m - j - 1)) := by
        rw [← Nat.pow_succ', ← Nat.pow_add]; congr 1; omega
      split
      · rw [hp, Nat.add_mul_div_left _ _ (Nat.two_pow_pos j), Nat.add_mul_mod_self_left]; exact ih j g
      · exact ih j g
    · have e : j = m := by omega
      subst e
      split
      · rw [Nat.add_div_right _ (Nat.two_pow_pos j), Nat.div_eq_of_lt hl]
      · rw [Nat.div_eq_of_lt hl]
section AN
variable {n b t i : Nat} {h : Nat → Int32} {V : Nat → Nat} {M X : Mem} {K : Int32 → Mem → Prop}
theorem ends_bit {W : Nat → Nat} {j : Nat} (hn : n ≤ 9) (hj : j < n) : (nI (endM W n) >>> (nI j &&& 31)) &&& 1 = nI (if W (16 + 7 * j) ≠ 0 then 1 else 0) := by
  have hl := endM_lt (V := W) n
  have hp := pow_9 hn
  rw [bit_at (by omega) (by omega), endM_bit n j hj]
/-! sharp -/
def shpP (lg lh : Nat → Nat → Nat → Nat) (h : Nat → Int32) (n : Nat) (V : Nat → Nat) (j N : Nat) (e : Nat) : Bool := decide (passN lg lh true h n N (adf V (14 + 7 * j) e) (16 + 7 * j) ≠ 0)
def shpA (lg lh : Nat → Nat → Nat → Nat) (h : Nat → Int32) (n : Nat) (V : Nat → Nat) (q a : Int32) : Ans := if (0 ≤ q.toInt ∧ q.toInt < n) ∧ 1 ≤ a.toInt ∧ a.toInt ≤ 60 then (if fnd (shpP lg lh h n V q.toNatClampNeg a.toNatClampNeg) 0 100 ≤ 99 then (nI (fnd (shpP lg lh h n V q.toNatClampNeg a.toNatClampNeg) 0 100), 0) else erA 2) else erA 1
theorem rv_edge {j e : Nat} (hV : RV n V) (hj : j < n) (he : e ≤ 99) : RV n (adf V (14 + 7 * j) e) := hV.putA (s := 14) hj (by omega) (by omega)
theorem C_sharp {q a : Int32} (hS : SA 1 80 n b t V h M) (hk : ∀ M1, PC (shpA (tvN 2 M) (tvN 7 M) h n V q a).2 M M1 → K (shpA (tvN 2 M) (tvN 7 M) h n V q a).1 M1) : wp_X7_sharp q a M K := by
  have h9 := hS.v0
  have hn := hS.rv.1
  unfold wp_X7_sharp
  unfold shpA at hk
  have bad : ¬ ((0 ≤ q.toInt ∧ q.toInt < n) ∧ 1 ≤ a.toInt ∧ a.toInt ≤ 60) → wp_X7_refuse (-1000000001) M K := fun g => by
    rw [if_neg g] at hk
    exact e7A (i := 1) (by omega) (by omega) (by decide) St.rf hk
  refine q7z hn hS.1.1 (fun j hj ej => ?_) (fun g => bad (fun x => g x.1))
  refine w7n 1 60 (by decide) (by decide) (fun g3 g4 => ?_) (fun g => bad (fun x => g x.2))
  rw [if_pos ⟨by rw [ej, nI_toInt (by omega)]; omega, g3, g4⟩] at hk
  obtain ⟨N, hN, rfl⟩ := nat_of (x := a) 60 (by omega) g4 (by decide)
  subst ej
  rw [nI_clamp (by omega), nI_clamp (by omega)] at hk
  generalize hP : shpP (tvN 2 M) (tvN 7 M) h n V j N = P at hk
  refine loopN (L := fun k i M' => wp_X7_sharp_L27 K (nI j) (nI N) k i M') 100 (fun i M' => St SY M M' ∧ fnd P 0 100 = fnd P i (100 - i)) ?_ 0 (Nat.zero_le _) ⟨St.rf, rfl⟩
  intro i M' k hi hs ih
  obtain ⟨hs, he⟩ := hs
  show wp_X7_sharp_l27 K (nI j) (nI N) (wp_X7_sharp_L27 K (nI j) (nI N) k) (nI i) M'
  unfold wp_X7_sharp_l27
  refine pk_lt 99 i (fun g => ?_) (fun g => ?_)
  · have : i = 100 := by omega
    subst this
    have hf : fnd P 0 100 = 100 := he
    rw [hf, if_neg (by omega)] at hk
    exact e7A (i := 2) (by omega) (by omega) (by decide) hs hk
  · rw [show 100 - i = (100 - (i + 1)) + 1 by omega] at he
    have h0' : adf V (14 + 7 * j) i 0 = V 0 := adf_o (by omega)
    refine k_think hS.sc hs (fun M1 h1 => ⟨vp_in_nI (by omega) (by decide), ?_⟩)
    rw [nI_clamp (by omega)]
    refine k_ends hN hj hS.sc (rv_edge hS.rv hj (by omega)) (by omega) (h1.put (s := 14) (k := 3) hj hn (Or.inl ⟨rfl, rfl⟩)) (fun M2 h2 => ?_)
    rw [pass_9 (by omega)]
    have w5 := ((rv_pass (lg := tvN 2 M) (lh := tvN 7 M) (wh := true) (h := h) (rv_edge hS.rv hj (show i ≤ 99 by omega)) N (by omega)).1.2.2.2.2.2.2 j hj).2.2.2.2.1
    refine ⟨fun e => ?_, fun e => ?_⟩
    · have c0 := (nI_eq (b := 0) (by omega) (by omega)).mp e
      have he := he.trans (fnd_n (by rw [← hP]; unfold shpP; simp [c0]))
      rw [nI_1]
      exact ih _ (by omega) ⟨h2, he⟩
    · have c0 : passN (tvN 2 M) (tvN 7 M) true h n N (adf V (14 + 7 * j) i) (16 + 7 * j) ≠ 0 := fun c => e (by rw [c]; rfl)
      have he := he.trans (fnd_y (by rw [← hP]; unfold shpP; simp [c0]))
      rw [he, if_pos (by omega)] at hk
      exact hk _ (PC.of h2)
theorem G_sharp {q a : Int32} (hG : GH n h V X M) (hk : ∀ M1, PM (shpA (tvN 2 X) (tvN 7 X) h n V q a).2 M M1 → K (shpA (tvN 2 X) (tvN 7 X) h n V q a).1 M1) : wp_X8_sharp q a M K := by
  obtain ⟨hR, hV, hH, hT2, hT7, h9⟩ := hG
  have hn := hV.1
  unfold wp_X8_sharp
  unfold shpA at hk
  have bad : ¬ ((0 ≤ q.toInt ∧ q.toInt < n) ∧ 1 ≤ a.toInt ∧ a.toInt ≤ 60) → wp_X8_errs (-1000000001) M K := fun g => by
    rw [if_neg g] at hk
    exact e8A (i := 1) (by omega) (by omega) (by decide) St.rf hk
  refine q8z hn hR.1 (fun j hj ej => ?_) (fun g => bad (fun x => g x.1))
  refine w8n 1 60 (by decide) (by decide) (fun g3 g4 => ?_) (fun g => bad (fun x => g x.2))
  rw [if_pos ⟨by rw [ej, nI_toInt (by omega)]; omega, g3, g4⟩] at hk
  obtain ⟨N, hN, rfl⟩ := nat_of (x := a) 60 (by omega) g4 (by decide)
  subst ej
  rw [nI_clamp (by omega), nI_clamp (by omega)] at hk
  generalize hP : shpP (tvN 2 X) (tvN 7 X) h n V j N = P at hk
  have w4 := (hV.2.2.2.2.2.2 j hj).2.2.2.1
  have eo : M 80 (14 + 7 * j) = nI (V (14 + 7 * j)) := hR.2.2 _ (NB.one 3 hj (by omega) (by omega))
  refine i_it 3 (14 + 7 * j) hn hR hj (by omega) ?_
  -- back to what it was, and the answer
  have fin : ∀ (m : Nat) (y : Int32) (M' : Mem), m ≤ 100 → RZ (14 + 7 * j) M M' → (y = 0 → fnd P 0 100 = 100) → (¬ y = 0 → 1 ≤ m ∧ fnd P 0 100 = m - 1) → wp_X8_gets (nI j) 3 (nI (V (14 + 7 * j))) M' (fun M2 => (y = 0 → wp_X8_errs (-1000000002) M2 (fun r3 M3 => K r3 M3)) ∧ (¬ y = 0 → K (nI m - 1) M2)) := fun m y M' hm hz g0 g1 => by
    refine m_gets 3 (by omega) ?_
    rw [show 11 + 7 * j + 3 = 14 + 7 * j by omega, ← eo]
    have hb := hz.back
    refine ⟨fun e => ?_, fun e => ?_⟩
    · rw [g0 e, if_neg (by omega)] at hk
      exact e8A (i := 2) (by omega) (by omega) (by decide) hb hk
    · obtain ⟨m1, m2⟩ := g1 e
      rw [m2, if_pos (by omega)] at hk
      obtain ⟨x, rfl⟩ : ∃ x, m = x + 1 := ⟨m - 1, by omega⟩
      rw [nI_pred]; exact hk _ (PM.of hb)
  have e00 : (-1 : Int32) = nI 0 - 1 := by decide
  rw [e00]
  refine loopW (σ := Nat × Int32 × Mem) (L := fun k s => wp_X8_sharp_L38 K (nI j) (nI N) (nI (V (14 + 7 * j))) k (nI s.1 - 1) s.2.1 s.2.2) (I := fun k s => s.1 ≤ 100 ∧ k = 100 - s.1 ∧ RZ (14 + 7 * j) M s.2.2 ∧ (s.2.1 = 0 → fnd P 0 100 = fnd P s.1 (100 - s.1)) ∧ (¬ s.2.1 = 0 → 1 ≤ s.1 ∧ fnd P 0 100 = s.1 - 1)) ?_ (k := 100) (s := (0, 0, M)) ⟨by show 0 ≤ 100; omega, rfl, ⟨St.rf, fun _ _ => rfl⟩, fun _ => rfl, fun e => absurd rfl e⟩
  rintro k ⟨m, y, M'⟩ c ⟨g1, g2, g3, g4, g5⟩ ih
  show wp_X8_sharp_l38 K (nI j) (nI N) (nI (V (14 + 7 * j))) (wp_X8_sharp_L38 K (nI j) (nI N) (nI (V (14 + 7 * j))) c) (nI m - 1) y M'
  have g1 : m ≤ 100 := g1
  have g2 : k = 100 - m := g2
  have g3 : RZ (14 + 7 * j) M M' := g3
  have g4 : y = 0 → fnd P 0 100 = fnd P m (100 - m) := g4
  have g5 : ¬ y = 0 → 1 ≤ m ∧ fnd P 0 100 = m - 1 := g5
  have hti : (nI m - 1).toInt = (m : Int) - 1 := nI_m1 (by omega)
  have h99 : (99 : Int32).toInt = 99 := rfl
  unfold wp_X8_sharp_l38
  refine ⟨fun e => ?_, fun e => ⟨fun y0 => ?_, fun y0 => ?_⟩⟩
  · have hm : m = 100 := by
      have := Int32.le_iff_toInt_le.mp e
      rw [hti, h99] at this; omega
    subst hm
    exact fin 100 y M' (by omega) g3 (fun c => g4 c) g5
  · exact fin m y M' g1 g3 (fun c => absurd c y0) g5
  · have hm : m < 100 := by
      rcases Nat.lt_or_ge m 100 with g | g
      · exact g
      · exact absurd (Int32.le_iff_toInt_le.mpr (by rw [hti, h99]; omega)) e
    have em : nI m - 1 + 1 = nI m := by
      apply Int32.toInt_inj.mp
      rcases Nat.eq_zero_or_pos m with g | g
      · subst g; decide
      · obtain ⟨x, rfl⟩ : ∃ x, m = x + 1 := ⟨m - 1, by omega⟩
        rw [nI_pred, nI_1]
    rw [em]
    have g4 := g4 y0
    rw [show 100 - m = (100 - (m + 1)) + 1 by omega] at g4
    refine m_gets 3 (by omega) ?_
    rw [show 11 + 7 * j + 3 = 14 + 7 * j by omega]
    have h0' : adf V (14 + 7 * j) m 0 = V 0 := adf_o (by omega)
    refine u_over hN (g3.rr (x := m) hR (by omega) (fun q hq => by omega)) (rv_edge hV hj (by omega)) hH (hT2.keep rfl rfl rfl rfl (by rw [up_slot _ (by omega), g3.2 _ (by omega)]) (fun x _ => by rw [up_slot _ (by omega), g3.2 _ (by omega)])) (hT7.keep rfl rfl rfl rfl (by rw [up_slot _ (by omega), g3.2 _ (by omega)]) (fun x _ => by rw [up_slot _ (by omega), g3.2 _ (by omega)])) (by omega) (fun M1 h1 => ?_)
    have h3 := g3.put.th h1
    rw [ends_bit hn hj]
    have e1 : nI (m + 1) - 1 = nI m := nI_pred m
    have nx : ∀ y', (y' = 0 → fnd P 0 100 = fnd P (m + 1) (100 - (m + 1))) → (¬ y' = 0 → fnd P 0 100 = m) → wp_X8_sharp_L38 K (nI j) (nI N) (nI (V (14 + 7 * j))) c (nI m) y' M1 := fun y' c0 c1 => by
      have := ih (100 - (m + 1)) (m + 1, y', M1) (by omega) ⟨by show m + 1 ≤ 100; omega, rfl, h3, c0, fun c => ⟨by show 1 ≤ m + 1; omega, by rw [c1 c]; show m = m + 1 - 1; omega⟩⟩
      have this : wp_X8_sharp_L38 K (nI j) (nI N) (nI (V (14 + 7 * j))) c (nI (m + 1) - 1) y' M1 := this
      rwa [e1] at this
    by_cases c0 : passN (tvN 2 X) (tvN 7 X) true h n N (adf V (14 + 7 * j) m) (16 + 7 * j) ≠ 0
    · rw [if_pos c0]
      have g4 := g4.trans (fnd_y (by rw [← hP]; unfold shpP; simp [c0]))
      exact ⟨fun e => absurd rfl e, fun _ => nx 1 (fun e => absurd e (by decide)) (fun _ => g4)⟩
    · rw [if_neg c0]
      have g4 := g4.trans (fnd_n (by rw [← hP]; unfold shpP; simpa using c0))
      exact ⟨fun _ => nx 0 (fun _ => g4) (fun e => absurd rfl e), fun e => absurd e (by decide)⟩
theorem z3_sharp {q a : Int32} (hI : Inv2 i M) : wp_X7_sharp q a M (fun r1 M1 => wp_X8_sharp q a M1 (fun r2 M2 => r1 = r2 ∧ Inv2 (i + 1) M2)) := by
  obtain ⟨n, b, t, V, h, hS⟩ := hI.2.1
  exact z_of (A := shpA (tvN 2 M) (tvN 7 M) h n V q a) (W7 := wp_X7_sharp q a) (W8 := wp_X8_sharp q a) hI (fun K hk => C_sharp hS hk) (fun M1 h1 K hk => G_sharp (hS.gh (h1 80 rfl)) hk)
/-! odds -/
theorem k_div {s : Nat} (hs : s ≤ 10) (hk : K (nI (Nat.gcd s 10)) M) : wp_X7_greatestDivisor (nI s) 10 M K := by
  have hg0 : 0 < Nat.gcd s 10 := Nat.gcd_pos_of_pos_right _ (by decide)
  have hg1 := Nat.gcd_dvd_left s 10
  have hg2 := Nat.gcd_dvd_right s 10
  have hgl : Nat.gcd s 10 ≤ 10 := Nat.le_of_dvd (by decide) hg2
  unfold wp_X7_greatestDivisor
  refine loopDA (α := Unit) (L := fun k _ i M' => wp_X7_greatestDivisor_L2 K (nI s) 10 k i M') (fun i _ M' => i ≤ 10 ∧ Nat.gcd s 10 ≤ i ∧ M' = M) ?_ 10 (a := ()) ⟨by omega, hgl, rfl⟩
  intro i a M' k hi ih
  obtain ⟨hi, hgi, rfl⟩ := hi
  show wp_X7_greatestDivisor_l2 K (nI s) 10 (wp_X7_greatestDivisor_L2 K (nI s) 10 k) (nI i) M'
  unfold wp_X7_greatestDivisor_l2
  refine pk_le i 1 (fun g => ?_) (fun g => ?_)
  · rw [show Nat.gcd s 10 = 1 by omega] at hk; exact hk
  · have hne : ¬ nI i = 0 := nI_ne0 (by omega) (by omega)
    rw [pk_rem (by omega) (by omega) (by omega), show (10 : Int32) = nI 10 from rfl, pk_rem (by omega) (by omega) (by omega)]
    obtain ⟨j, rfl⟩ : ∃ j, i = j + 1 := ⟨i - 1, by omega⟩
    rw [nI_dec]
    have dn : Nat.gcd s 10 ≠ j + 1 → wp_X7_greatestDivisor_L2 K (nI s) (nI 10) k (nI j) M' := fun c => ih j () M' rfl ⟨by omega, by omega, rfl⟩
    refine ⟨hne, fun e => dn (fun c => e ?_), fun e => ⟨hne, fun e2 => dn (fun c => e2 ?_), fun e2 => ?_⟩⟩
    · rw [← c, Nat.mod_eq_zero_of_dvd hg1]; rfl
    · rw [← c, Nat.mod_eq_zero_of_dvd hg2]; rfl
    · have m1 : s % (j + 1) = 0 := (nI_eq (b := 0) (by have := Nat.mod_le s (j + 1); omega) (by omega)).mp e
      have m2 : 10 % (j + 1) = 0 := (nI_eq (b := 0) (by have := Nat.mod_le 10 (j + 1); omega) (by omega)).mp e2
      have : j + 1 ≤ Nat.gcd s 10 := Nat.le_of_dvd hg0 (Nat.dvd_gcd (Nat.dvd_of_mod_eq_zero m1) (Nat.dvd_of_mod_eq_zero m2))
      rw [show Nat.gcd s 10 = j + 1 by omega] at hk; exact hk
theorem g_div {s : Nat} (hs : s ≤ 10) (hk : K (nI (Nat.gcd s 10)) M) : wp_X8_divisor (nI s) 10 M K := by
  unfold wp_X8_divisor
  refine loopW (σ := Nat × Nat) (L := fun k p => wp_X8_divisor_L4 K k (nI p.1) (nI p.2) M) (I := fun k p => k = p.2 ∧ p.1 ≤ 10 ∧ p.2 ≤ 10 ∧ Nat.gcd p.1 p.2 = Nat.gcd s 10) ?_ (k := 10) (s := (s, 10)) ⟨rfl, hs, by show 10 ≤ 10; omega, rfl⟩
  rintro k ⟨x, y⟩ c ⟨g1, g2, g3, g4⟩ ih
  have g1 : k = y := g1
  have g2 : x ≤ 10 := g2
  have g3 : y ≤ 10 := g3
  have g4 : Nat.gcd x y = Nat.gcd s 10 := g4
  show wp_X8_divisor_l4 K (wp_X8_divisor_L4 K c) (nI x) (nI y) M
  unfold wp_X8_divisor_l4
  refine ⟨fun e => ?_, fun e => ⟨e, ?_⟩⟩
  · have : y = 0 := (nI_eq (b := 0) (by omega) (by omega)).mp e
    subst this
    rw [Nat.gcd_zero_right] at g4
    rw [g4]; exact hk
  · have hy : 0 < y := by
      rcases Nat.eq_zero_or_pos y with c | c
      · exact absurd (by rw [c]; rfl) e
      · exact c
    rw [pk_rem (by omega) hy (by omega)]
    have hm := Nat.mod_lt x hy
    refine ih (x % y) (y, x % y) (by omega) ⟨rfl, g3, by show x % y ≤ 10; omega, ?_⟩
    show Nat.gcd y (x % y) = Nat.gcd s 10
    rw [← g4, Nat.gcd_comm x y, Nat.gcd_rec y x, Nat.gcd_comm]
def cntF (P : Nat → Bool) : Nat → Nat
  | 0 => 0
  | m + 1 => if P m = true then cntF P m + 1 else cntF P m
theorem cntF_le {P : Nat → Bool} : ∀ m, cntF P m ≤ m := by
  intro m
  induction m with
  | zero => exact Nat.le_refl _
  | succ m ih =>
    show (if P m = true then cntF P m + 1 else cntF P m) ≤ m + 1
    split <;> omega
def oddP (lg lh : Nat → Nat → Nat → Nat) (h : Nat → Int32) (n : Nat) (V : Nat → Nat) (j N : Nat) (e : Nat) : Bool := decide (passN lg lh true h n N (adf V 7 e) (16 + 7 * j) ≠ 0)
def oddA (lg lh : Nat → Nat → Nat → Nat) (h : Nat → Int32) (n : Nat) (V : Nat → Nat) (q a c : Int32) : Ans := if (0 ≤ q.toInt ∧ q.toInt < n) ∧ (0 ≤ a.toInt ∧ a.toInt ≤ 60) ∧ 0 ≤ c.toInt ∧ c.toInt ≤ 1 then (if c = 0 then nI (cntF (oddP lg lh h n V q.toNatClampNeg a.toNatClampNeg) 10) / nI (Nat.gcd (cntF (oddP lg lh h n V q.toNatClampNeg a.toNatClampNeg) 10) 10) else 10 / nI (Nat.gcd (cntF (oddP lg lh h n V q.toNatClampNeg a.toNatClampNeg) 10) 10), 0) else erA 1
theorem gcd_ne {s : Nat} : ¬ nI (Nat.gcd s 10) = 0 := nI_ne0 (Nat.gcd_pos_of_pos_right _ (by decide)) (by have := Nat.le_of_dvd (by decide) (Nat.gcd_dvd_right s 10); omega)
theorem C_odds {q a c : Int32} (hS : SA 1 80 n b t V h M) (hk : ∀ M1, PC (oddA (tvN 2 M) (tvN 7 M) h n V q a c).2 M M1 → K (oddA (tvN 2 M) (tvN 7 M) h n V q a c).1 M1) : wp_X7_odds q a c M K := by
  have h9 := hS.v0
  have hn := hS.rv.1
  unfold wp_X7_odds
  unfold oddA at hk
  have bad : ¬ ((0 ≤ q.toInt ∧ q.toInt < n) ∧ (0 ≤ a.toInt ∧ a.toInt ≤ 60) ∧ 0 ≤ c.toInt ∧ c.toInt ≤ 1) → wp_X7_refuse (-1000000001) M K := fun g => by
    rw [if_neg g] at hk
    exact e7A (i := 1) (by omega) (by omega) (by decide) St.rf hk
  refine q7z hn hS.1.1 (fun j hj ej => ?_) (fun g => bad (fun x => g x.1))
  refine w7z 0 60 (by decide) (by decide) (fun g1 g2 => ?_) (fun g => bad (fun x => g x.2.1))
  refine w7n 0 1 (by decide) (by decide) (fun g3 g4 => ?_) (fun g => bad (fun x => g x.2.2))
  rw [if_pos ⟨by rw [ej, nI_toInt (by omega)]; omega, ⟨g1, g2⟩, g3, g4⟩] at hk
  obtain ⟨N, hN, rfl⟩ := nat_of (x := a) 60 g1 g2 (by decide)
  subst ej
  rw [nI_clamp (by omega), nI_clamp (by omega)] at hk
  dsimp only at hk
  generalize hP : oddP (tvN 2 M) (tvN 7 M) h n V j N = P at hk
  refine loopNA (L := fun k a i M' => wp_X7_odds_L40 K (nI j) (nI N) c k a i M') 10 (fun i a M' => St SY M M' ∧ a = nI (cntF P i)) ?_ 0 (Nat.zero_le _) ⟨St.rf, rfl⟩
  intro i s M' k hi hs ih
  obtain ⟨hs, rfl⟩ := hs
  show wp_X7_odds_l40 K (nI j) (nI N) c (wp_X7_odds_L40 K (nI j) (nI N) c k) (nI (cntF P i)) (nI i) M'
  unfold wp_X7_odds_l40
  have hcl := cntF_le (P := P) i
  refine ⟨fun q => ?_, fun q => ?_⟩
  · have : i = 10 := by have := le_of_nI (a := 10) q (by omega) (by omega); omega
    subst this
    have hk := hk M' (PC.of hs)
    refine k_div hcl ⟨fun e => ⟨gcd_ne, by rw [if_neg e] at hk; exact hk⟩, fun e => ⟨gcd_ne, by rw [if_pos e] at hk; exact hk⟩⟩
  · have hi2 : i < 10 := lt_of_nI (a := 10) q (by omega) (by omega)
    have h0' : adf V 7 i 0 = V 0 := adf_o (by omega)
    have hrv : RV n (adf V 7 i) := rv_gr hS.rv (Or.inl rfl) (by omega)
    rw [nI_1, nI_1]
    refine k_think hS.sc hs (fun M1 h1 => k_ends hN hj hS.sc hrv (by omega) (h1.gr hn (Or.inl ⟨rfl, rfl⟩)) (fun M2 h2 => ?_))
    rw [pass_9 (by omega)]
    have w5 := ((rv_pass (lg := tvN 2 M) (lh := tvN 7 M) (wh := true) (h := h) hrv N (by omega)).1.2.2.2.2.2.2 j hj).2.2.2.2.1
    have es : cntF P (i + 1) = (if P i = true then cntF P i + 1 else cntF P i) := rfl
    refine ⟨fun e => ih _ _ hi2 ⟨h2, ?_⟩, fun e => ih _ _ hi2 ⟨h2, ?_⟩⟩
    · have c0 := (nI_eq (b := 0) (by omega) (by omega)).mp e
      rw [es, if_neg (by rw [← hP]; unfold oddP; simp [c0])]
    · have c0 : passN (tvN 2 M) (tvN 7 M) true h n N (adf V 7 i) (16 + 7 * j) ≠ 0 := fun c => e (by rw [c]; rfl)
      rw [es, if_pos (by rw [← hP]; unfold oddP; simp [c0])]
theorem G_odds {q a c : Int32} (hG : GH n h V X M) (hk : ∀ M1, PM (oddA (tvN 2 X) (tvN 7 X) h n V q a c).2 M M1 → K (oddA (tvN 2 X) (tvN 7 X) h n V q a c).1 M1) : wp_X8_odds q a c M K := by
  obtain ⟨hR, hV, hH, hT2, hT7, h9⟩ := hG
  have hn := hV.1
  unfold wp_X8_odds
  unfold oddA at hk
  have bad : ¬ ((0 ≤ q.toInt ∧ q.toInt < n) ∧ (0 ≤ a.toInt ∧ a.toInt ≤ 60) ∧ 0 ≤ c.toInt ∧ c.toInt ≤ 1) → wp_X8_errs (-1000000001) M K := fun g => by
    rw [if_neg g] at hk
    exact e8A (i := 1) (by omega) (by omega) (by decide) St.rf hk
  refine q8z hn hR.1 (fun j hj ej => ?_) (fun g => bad (fun x => g x.1))
  refine w8z 0 60 (by decide) (by decide) (fun g1 g2 => ?_) (fun g => bad (fun x => g x.2.1))
  refine w8n 0 1 (by decide) (by decide) (fun g3 g4 => ?_) (fun g => bad (fun x => g x.2.2))
  rw [if_pos ⟨by rw [ej, nI_toInt (by omega)]; omega, ⟨g1, g2⟩, g3, g4⟩] at hk
  obtain ⟨N, hN, rfl⟩ := nat_of (x := a) 60 g1 g2 (by decide)
  subst ej
  rw [nI_clamp (by omega), nI_clamp (by omega)] at hk
  dsimp only at hk
  generalize hP : oddP (tvN 2 X) (tvN 7 X) h n V j N = P at hk
  refine loopNA (L := fun k a i M' => wp_X8_odds_L49 K (nI j) (nI N) c (M 80 7) k a i M') 10 (fun i a M' => RZ 7 M M' ∧ a = nI (cntF P i)) ?_ 0 (Nat.zero_le _) ⟨⟨St.rf, fun _ _ => rfl⟩, rfl⟩
  intro i s M' k hi hs ih
  obtain ⟨hs, rfl⟩ := hs
  show wp_X8_odds_l49 K (nI j) (nI N) c (M 80 7) (wp_X8_odds_L49 K (nI j) (nI N) c (M 80 7) k) (nI (cntF P i)) (nI i) M'
  unfold wp_X8_odds_l49
  have hcl := cntF_le (P := P) i
  refine ⟨fun q => ?_, fun q => ?_⟩
  · have : i = 10 := by have := le_of_nI (a := 10) q (by omega) (by omega); omega
    subst this
    have hk := hk _ (PM.of hs.back)
    refine g_div hcl ⟨fun e => ⟨gcd_ne, by rw [if_neg e] at hk; exact hk⟩, fun e => ⟨gcd_ne, by rw [if_pos e] at hk; exact hk⟩⟩
  · have hi2 : i < 10 := lt_of_nI (a := 10) q (by omega) (by omega)
    have h0' : adf V 7 i 0 = V 0 := adf_o (by omega)
    rw [nI_1]
    refine u_over hN (hs.rr (x := i) hR (by omega) (fun q hq => by omega)) (rv_gr hV (Or.inl rfl) (by omega)) hH (hs.tq (by omega) (by omega) (by omega) (by omega) hT2) (hs.tq (by omega) (by omega) (by omega) (by omega) hT7) (by omega) (fun M1 h1 => ?_)
    rw [ends_bit hn hj, nI_add]
    refine ih _ _ hi2 ⟨hs.put.th h1, ?_⟩
    have es : cntF P (i + 1) = (if P i = true then cntF P i + 1 else cntF P i) := rfl
    by_cases c0 : passN (tvN 2 X) (tvN 7 X) true h n N (adf V 7 i) (16 + 7 * j) ≠ 0
    · rw [if_pos c0, es, if_pos (by rw [← hP]; unfold oddP; simp [c0])]
    · rw [if_neg c0, es, if_neg (by rw [← hP]; unfold oddP; simpa using c0)]
      rfl
theorem z3_odds {q a c : Int32} (hI : Inv2 i M) : wp_X7_odds q a c M (fun r1 M1 => wp_X8_odds q a c M1 (fun r2 M2 => r1 = r2 ∧ Inv2 (i + 1) M2)) := by
  obtain ⟨n, b, t, V, h, hS⟩ := hI.2.1
  exact z_of (A := oddA (tvN 2 M) (tvN 7 M) h n V q a c) (W7 := wp_X7_odds q a c) (W8 := wp_X8_odds q a c) hI (fun K hk => C_odds hS hk) (fun M1 h1 K hk => G_odds (hS.gh (h1 80 rfl)) hk)
end AN
