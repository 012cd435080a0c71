section ZH
variable {i n : Nat} {M : Mem} {K : Int32 → Mem → Prop}
theorem x_quarrel {km a e o : Int32} (hC : CN n M)
    (hg : QG n km a e o → n < 9 → ∀ M1, St (fun b => b == 12 || b == 14 + n) M M1 → M1 12 3 = nI (n + 1) → (∀ k, k ≠ 3 → M1 12 k = M 12 k) → M1 (14 + n) 0 = km / 10 → M1 (14 + n) 1 = km - km / 10 * 10 → M1 (14 + n) 2 = a → M1 (14 + n) 3 = e → M1 (14 + n) 4 = o → M1 (14 + n) 6 = 0 → M1 (14 + n) 5 = 0 → K (nI n) M1)
    (hb : ¬ QG n km a e o → ∀ M1, PC 1 M M1 → K (erA 1).1 M1) (hf : QG n km a e o → n = 9 → ∀ M1, PC 4 M M1 → K (erA 4).1 M1) : wp_X7_quarrel km a e o M K := by
  have hn := hC.1
  unfold wp_X7_quarrel wp_X7_isKindAndM
  have hB : ¬ QG n km a e o → wp_X7_refuse (-1000000001) M K := fun g => e7A (i := 1) (by omega) (by omega) (by decide) St.rf (hb g)
  refine w7 0 69 (by decide) (by decide) (fun g1 g2 => ⟨Or.inr rfl, b1a ?_⟩) (fun g => ⟨Or.inl rfl, b0a (hB (fun h => g h.1))⟩)
  refine w7z 0 9 (by decide) (by decide) (fun g3 g4 => ?_) (fun g => hB (fun h => g h.2.1))
  refine w7z 0 99 (by decide) (by decide) (fun g5 g6 => ?_) (fun g => hB (fun h => g h.2.2.1))
  rw [hC.2.1]
  refine w7n (-1) ((n : Int) - 1) (by decide) (nI_m1 (by omega)) (fun g7 g8 => ?_) (fun g => hB (fun h => g h.2.2.2))
  have hq : QG n km a e o := ⟨⟨g1, g2⟩, ⟨g3, g4⟩, ⟨g5, g6⟩, g7, g8⟩
  rw [hC.2.1]
  refine pk_lt n 9 (fun q => ?_) (fun q => e7A (i := 4) (by omega) (by omega) (by decide) St.rf (hf hq (by omega)))
  refine ⟨vp_in_nI q (by decide), ?_⟩
  rw [nI_clamp (by omega)]
  unfold wp_X1_turnInto
  rintro _ rfl
  have hne : (12 : Nat) ≠ 14 + n := by omega
  have hne2 : 14 + n ≠ (12 : Nat) := by omega
  simp only [up_same, up_cell hne, hC.2.1]
  rw [nI_1, nI_pred]
  refine hg hq q _ ?_ up_same ?_ ?_ ?_ ?_ ?_ ?_ ?_ ?_
  · exact (((((((St.rf.up (by simp)).up (by simp)).up (by simp)).up (by simp)).up (by simp)).up (by simp)).up (by simp)).up (by simp)
  · intro k hk; rw [up_slot _ hk]; simp only [up_cell hne]
  · rw [up_cell hne2]; simp [up]
  · rw [up_cell hne2]; simp [up]
  · rw [up_cell hne2]; simp [up]
  · rw [up_cell hne2]; simp [up]
  · rw [up_cell hne2]; simp [up]
  · rw [up_cell hne2]; simp [up]
  · rw [up_cell hne2]; simp [up]
theorem y_quarrel {km a e o : Int32} (hR : RO n (M 80))
    (hg : QG n km a e o → n < 9 → ∀ M1, St (fun b => b == 80) M M1 → M1 80 2 = nI (n + 1) → (∀ k, k ≠ 2 → (k < 11 + 7 * n ∨ 18 + 7 * n ≤ k) → M1 80 k = M 80 k) → M1 80 (11 + 7 * n) = km / 10 → M1 80 (12 + 7 * n) = km - km / 10 * 10 → M1 80 (13 + 7 * n) = a → M1 80 (14 + 7 * n) = e → M1 80 (15 + 7 * n) = o → M1 80 (16 + 7 * n) = 0 → M1 80 (17 + 7 * n) = 0 → K (nI n) M1)
    (hb : ¬ QG n km a e o → ∀ M1, PM 1 M M1 → K (erA 1).1 M1) (hf : QG n km a e o → n = 9 → ∀ M1, PM 4 M M1 → K (erA 4).1 M1) : wp_X8_quarrel km a e o M K := by
  have hn := hR.1
  unfold wp_X8_quarrel
  have hB : ¬ QG n km a e o → wp_X8_errs (-1000000001) M K := fun g => e8A (i := 1) (by omega) (by omega) (by decide) St.rf (hb g)
  refine w8z 0 69 (by decide) (by decide) (fun g1 g2 => ?_) (fun g => hB (fun h => g h.1))
  refine m_area (fun g3 g4 => ?_) (fun g => hB (fun h => g h.2.1))
  refine w8z 0 99 (by decide) (by decide) (fun g5 g6 => ?_) (fun g => hB (fun h => g h.2.2.1))
  rw [hR.2.1]
  refine w8n (-1) ((n : Int) - 1) (by decide) (nI_m1 (by omega)) (fun g7 g8 => ?_) (fun g => hB (fun h => g h.2.2.2))
  have hq : QG n km a e o := ⟨⟨g1, g2⟩, ⟨g3, g4⟩, ⟨g5, g6⟩, g7, g8⟩
  rw [hR.2.1]
  have ex := pk_eq (x := nI n) (y := 9) n 9 (A := n = 9) (B := n ≠ 9) id id
  refine ⟨fun q => ?_, fun q => e8A (i := 4) (by omega) (by omega) (by decide) St.rf (hf hq (ex.1 q))⟩
  have h9 := ex.2 q
  refine m_gets 0 (by omega) (m_gets 1 (by omega) (m_gets 2 (by omega) (m_gets 3 (by omega) (m_gets 4 (by omega) (m_gets 5 (by omega) (m_gets 6 (by omega) ?_))))))
  have e2 : (up (up (up (up (up (up (up M 80 (11 + 7 * n + 0) (km / 10)) 80 (11 + 7 * n + 1) (km - km / 10 * 10)) 80 (11 + 7 * n + 2) a) 80 (11 + 7 * n + 3) e) 80 (11 + 7 * n + 4) o) 80 (11 + 7 * n + 5) 0) 80 (11 + 7 * n + 6) 0) 80 2 = nI n := by
    rw [up_slot _ (by omega), up_slot _ (by omega), up_slot _ (by omega), up_slot _ (by omega), up_slot _ (by omega), up_slot _ (by omega), up_slot _ (by omega)]; exact hR.2.1
  rw [e2, nI_1]
  refine hg hq (by omega) _ ((((((((St.rf.up rfl).up rfl).up rfl).up rfl).up rfl).up rfl).up rfl).up rfl) up_same (fun k hk hk2 => ?_) ?_ ?_ ?_ ?_ ?_ ?_ ?_
  · rw [up_slot _ hk, up_slot _ (by omega), up_slot _ (by omega), up_slot _ (by omega), up_slot _ (by omega), up_slot _ (by omega), up_slot _ (by omega), up_slot _ (by omega)]
  · rw [up_slot _ (by omega), up_slot _ (by omega), up_slot _ (by omega), up_slot _ (by omega), up_slot _ (by omega), up_slot _ (by omega), up_slot _ (by omega)]; exact up_same
  · rw [up_slot _ (by omega), up_slot _ (by omega), up_slot _ (by omega), up_slot _ (by omega), up_slot _ (by omega), up_slot _ (by omega), show 12 + 7 * n = 11 + 7 * n + 1 by omega]; exact up_same
  · rw [up_slot _ (by omega), up_slot _ (by omega), up_slot _ (by omega), up_slot _ (by omega), up_slot _ (by omega), show 13 + 7 * n = 11 + 7 * n + 2 by omega]; exact up_same
  · rw [up_slot _ (by omega), up_slot _ (by omega), up_slot _ (by omega), up_slot _ (by omega), show 14 + 7 * n = 11 + 7 * n + 3 by omega]; exact up_same
  · rw [up_slot _ (by omega), up_slot _ (by omega), up_slot _ (by omega), show 15 + 7 * n = 11 + 7 * n + 4 by omega]; exact up_same
  · rw [up_slot _ (by omega), up_slot _ (by omega), show 16 + 7 * n = 11 + 7 * n + 5 by omega]; exact up_same
  · rw [up_slot _ (by omega), show 17 + 7 * n = 11 + 7 * n + 6 by omega]; exact up_same
/-- a new one's numbers -/
def vq (n x y z : Nat) (V : Nat → Nat) (k : Nat) : Nat := if k < 11 + 7 * n then V k else if k = 11 + 7 * n then x / 10 else if k = 12 + 7 * n then x % 10 else if k = 13 + 7 * n then y else if k = 14 + 7 * n then z else 0
theorem vq_lo {n x y z k : Nat} {V : Nat → Nat} (h : k < 11 + 7 * n) : vq n x y z V k = V k := if_pos h
theorem vq_0 {n x y z : Nat} {V : Nat → Nat} : vq n x y z V (11 + 7 * n) = x / 10 := by unfold vq; rw [if_neg (by omega), if_pos rfl]
theorem vq_1 {n x y z : Nat} {V : Nat → Nat} : vq n x y z V (12 + 7 * n) = x % 10 := by unfold vq; rw [if_neg (by omega), if_neg (by omega), if_pos rfl]
theorem vq_2 {n x y z : Nat} {V : Nat → Nat} : vq n x y z V (13 + 7 * n) = y := by unfold vq; rw [if_neg (by omega), if_neg (by omega), if_neg (by omega), if_pos rfl]
theorem vq_3 {n x y z : Nat} {V : Nat → Nat} : vq n x y z V (14 + 7 * n) = z := by unfold vq; rw [if_neg (by omega), if_neg (by omega), if_neg (by omega), if_neg (by omega), if_pos rfl]
theorem vq_5 {n x y z : Nat} {V : Nat → Nat} : vq n x y z V (16 + 7 * n) = 0 := by unfold vq; rw [if_neg (by omega), if_neg (by omega), if_neg (by omega), if_neg (by omega), if_neg (by omega)]
theorem vq_6 {n x y z : Nat} {V : Nat → Nat} : vq n x y z V (17 + 7 * n) = 0 := by unfold vq; rw [if_neg (by omega), if_neg (by omega), if_neg (by omega), if_neg (by omega), if_neg (by omega)]
theorem z2_quarrel {km a e o : Int32} (hI : Inv2 i M) : wp_X7_quarrel km a e o M (fun r1 M1 => wp_X8_quarrel km a e o M1 (fun r2 M2 => r1 = r2 ∧ Inv2 (i + 1) M2)) := by
  obtain ⟨n, b, t, V, h, hS⟩ := hI.2.1
  have hN := hS.nw
  have hn := hS.rv.1
  refine x_quarrel hN.1.cn (fun hq h9 M1 c1 c2 c3 c4 c5 c6 c7 c8 c9 c10 => ?_) (fun g M1 p1 => y_quarrel (n := n) (by rw [p1.1 80 rfl]; exact hN.2.1) (fun hq => absurd hq g) (fun _ M2 p2 => ⟨rfl, hI.th p1.1 p2.1⟩) (fun hq => absurd hq g)) (fun hq h9 M1 p1 => y_quarrel (n := n) (by rw [p1.1 80 rfl]; exact hN.2.1) (fun _ g => by omega) (fun g => absurd hq g) (fun _ _ M2 p2 => ⟨rfl, hI.th p1.1 p2.1⟩))
  have m1 : ∀ c, c ≠ 12 → c ≠ 14 + n → M1 c = M c := fun c g1 g2 => c1 c (by simp [g1, g2])
  refine y_quarrel (n := n) (by rw [m1 80 (by omega) (by omega)]; exact hN.2.1) (fun _ _ M2 d1 d2 d3 d4 d5 d6 d7 d8 d9 d10 => ⟨rfl, ?_⟩) (fun g => absurd hq g) (fun _ g => by omega)
  obtain ⟨⟨k1, k2⟩, ⟨k3, k4⟩, ⟨k5, k6⟩, k7, k8⟩ := hq
  obtain ⟨x, hx, rfl⟩ := nat_of (x := km) 69 k1 k2 (by decide)
  obtain ⟨y, hy, rfl⟩ := nat_of (x := a) 9 k3 k4 (by decide)
  obtain ⟨z, hz, rfl⟩ := nat_of (x := e) 99 k5 k6 (by decide)
  rw [show (10 : Int32) = nI 10 from rfl, pk_div (by omega) (by omega) (by omega)] at c4 d4
  rw [show (10 : Int32) = nI 10 from rfl, pk_rem (by omega) (by omega) (by omega)] at c5 d5
  have ex : ∀ c, c ≠ 80 → M2 c = M1 c := fun c hc => d1 c (by simp [hc])
  have es : ∀ c, c ≠ 12 → c ≠ 14 + n → c ≠ 80 → M2 c = M c := fun c g1 g2 g3 => by rw [ex c g3]; exact m1 c g1 g2
  have e8 : ∀ k, k ≠ 2 → (k < 11 + 7 * n ∨ 18 + 7 * n ≤ k) → M2 80 k = M 80 k := fun k g1 g2 => by rw [d3 k g1 g2, m1 80 (by omega) (by omega)]
  obtain ⟨v1, v2, v3, v4, v5, v6, v7⟩ := hS.rv
  obtain ⟨r1, r2, r3, r4, r5, r6⟩ := hS.1
  have s7 : M 12 7 = nI (V 9) := hS.2.1
  have hR := hS.2.2.1
  have hH := hS.hh
  refine hI.rest (fun c hc => es c (by simp at hc; omega) (by simp at hc; omega) (by simp at hc; omega)) (by rw [es 79 (by omega) (by omega) (by omega)]) (by rw [es 79 (by omega) (by omega) (by omega)]) (by rw [es 79 (by omega) (by omega) (by omega)]) (hS.num (n' := n + 1) (V' := vq n x y z V) (h' := fun q => if q = n then o else h q) (fun c g1 g2 g3 g4 g5 => es c (by omega) (by omega) (by omega)) (fun k hk => by rw [es 1 (by omega) (by omega) (by omega)]) (fun k hk => e8 k (by omega) (by omega)) (by rw [es 1 (by omega) (by omega) (by omega), e8 1 (by omega) (by omega)]; exact hS.bt.2.2.1) ⟨by rw [ex 12 (by omega)]; exact c2, ?_, ?_, ?_, ?_, fun q hq2 => ?_⟩ ?_ ⟨d2, fun q hq2 => ?_, fun k hk => ?_⟩ ⟨by omega, ?_, ?_, ?_, ?_, ?_, fun q hq2 => ?_⟩ ?_ (fun q hq2 => ?_))
  · rw [ex 12 (by omega), c3 4 (by omega), vq_lo (by omega)]; exact r2
  · rw [ex 12 (by omega), c3 5 (by omega), vq_lo (by omega)]; exact r3
  · rw [ex 12 (by omega), c3 6 (by omega), vq_lo (by omega)]; exact r4
  · rw [ex 12 (by omega), c3 8 (by omega), vq_lo (by omega)]; exact r5
  · rw [show 12 + 2 + q = 14 + q by omega]
    rcases Nat.lt_or_ge q n with g | g
    · have := r6 q g
      rw [show 1 + 11 + 2 + q = 14 + q by omega] at this
      rw [es (14 + q) (by omega) (by omega) (by omega), vq_lo (by omega), vq_lo (by omega), vq_lo (by omega), vq_lo (by omega), vq_lo (by omega), vq_lo (by omega)]
      show _ ∧ _ ∧ _ ∧ _ ∧ M (14 + q) 4 = (if q = n then o else h q) ∧ _
      rw [if_neg (by omega)]; exact this
    · have : q = n := by omega
      subst this
      rw [ex (14 + q) (by omega), vq_0, vq_1, vq_2, vq_3, vq_5, vq_6]
      show _ ∧ _ ∧ _ ∧ _ ∧ M1 (14 + q) 4 = (if q = q then o else h q) ∧ _
      rw [if_pos rfl]
      exact ⟨c4, c5, c6, c7, c8, c9, c10⟩
  · rw [ex 12 (by omega), c3 7 (by omega), vq_lo (by omega)]; exact s7
  · show M2 80 (15 + 7 * q) = (if q = n then o else h q)
    rcases Nat.lt_or_ge q n with g | g
    · rw [if_neg (by omega), e8 _ (by omega) (by omega)]; exact hR.2.1 q g
    · have : q = n := by omega
      subst this
      rw [if_pos rfl]; exact d8
  · rcases Nat.lt_or_ge k (11 + 7 * n) with g | g
    · have hk0 : NB n k := by
        rcases hk with h | h | ⟨q, w, q1, q2, q3, q4⟩
        · exact Or.inl h
        · exact Or.inr (Or.inl h)
        · exact Or.inr (Or.inr ⟨q, w, by omega, q2, q3, q4⟩)
      have : k ≠ 2 := by rcases hk with h | h | ⟨q, w, q1, q2, q3, q4⟩ <;> omega
      rw [vq_lo g, e8 k this (Or.inl g)]; exact hR.2.2 k hk0
    · have : ∃ w, w ≤ 6 ∧ w ≠ 4 ∧ k = 11 + w + 7 * n := by
        rcases hk with h | h | ⟨q, w, q1, q2, q3, q4⟩
        · omega
        · omega
        · exact ⟨w, q2, q3, by omega⟩
      obtain ⟨w, w6, w4, rfl⟩ := this
      rcases (by omega : w = 0 ∨ w = 1 ∨ w = 2 ∨ w = 3 ∨ w = 5 ∨ w = 6) with rfl | rfl | rfl | rfl | rfl | rfl
      · show M2 80 (11 + 7 * n) = nI (vq n x y z V (11 + 7 * n)); rw [vq_0]; exact d4
      · show M2 80 (12 + 7 * n) = nI (vq n x y z V (12 + 7 * n)); rw [vq_1]; exact d5
      · show M2 80 (13 + 7 * n) = nI (vq n x y z V (13 + 7 * n)); rw [vq_2]; exact d6
      · show M2 80 (14 + 7 * n) = nI (vq n x y z V (14 + 7 * n)); rw [vq_3]; exact d7
      · show M2 80 (16 + 7 * n) = nI (vq n x y z V (16 + 7 * n)); rw [vq_5]; exact d9
      · show M2 80 (17 + 7 * n) = nI (vq n x y z V (17 + 7 * n)); rw [vq_6]; exact d10
  · rw [vq_lo (by omega)]; exact v2
  · rw [vq_lo (by omega)]; exact v3
  · rw [vq_lo (by omega)]; exact v4
  · rw [vq_lo (by omega)]; exact v5
  · rw [vq_lo (by omega)]; exact v6
  · rcases Nat.lt_or_ge q n with g | g
    · rw [vq_lo (by omega), vq_lo (by omega), vq_lo (by omega), vq_lo (by omega), vq_lo (by omega), vq_lo (by omega)]; exact v7 q g
    · have : q = n := by omega
      subst this
      rw [vq_0, vq_1, vq_2, vq_3, vq_5, vq_6]; omega
  · rw [vq_lo (by omega)]; exact hS.v0
  · show (if q = n then o else h q) = -1 ∨ ∃ j : Nat, j < q ∧ (if q = n then o else h q) = nI j
    rcases Nat.lt_or_ge q n with g | g
    · rw [if_neg (by omega)]; exact hH q g
    · have : q = n := by omega
      subst this
      rw [if_pos rfl]
      rcases Int.lt_or_le o.toInt 0 with g0 | g0
      · exact Or.inl (Int32.toInt_inj.mp (by rw [show (-1 : Int32).toInt = -1 from rfl]; omega))
      · obtain ⟨j, hj, ej⟩ := nat_of (x := o) 8 g0 (by omega) (by decide)
        rw [ej, nI_toInt (by omega)] at k8
        exact Or.inr ⟨j, by omega, ej⟩
/-- the first m edges set -/
def edV (f : Nat → Int32) : Nat → (Nat → Nat) → Nat → Nat
  | 0, V => V
  | m + 1, V => adf (edV f m V) (14 + 7 * m) (f m).toNatClampNeg
theorem x_edges {a : Int32} {h : Nat → Int32} {V : Nat → Nat} (hG : RG 12 n h V M) (hV : RV n V) (hS : SHc M) (hg : ∀ j z : Nat, j < 4 → a = nI j → M (70 + 2 * j) 2 = nI z → z ≤ 40 → ¬ M (70 + 2 * j) 1 = 0 → ∀ M1, St (fun c => decide (14 ≤ c) && decide (c ≤ 22)) M M1 → RG 12 n h (edV (M (71 + 2 * j)) (edgeN (M (71 + 2 * j)) (min n z)) V) M1 → RV n (edV (M (71 + 2 * j)) (edgeN (M (71 + 2 * j)) (min n z)) V) → edV (M (71 + 2 * j)) (edgeN (M (71 + 2 * j)) (min n z)) V 9 = V 9 → edV (M (71 + 2 * j)) (edgeN (M (71 + 2 * j)) (min n z)) V 0 = V 0 → K (nI (edgeN (M (71 + 2 * j)) (min n z))) M1)
    (hb : ¬ (0 ≤ a.toInt ∧ a.toInt ≤ 3) → ∀ M1, St SX M M1 → K (-1000000001) M1) (hm : ∀ j : Nat, j < 4 → a = nI j → M (70 + 2 * j) 1 = 0 → ∀ M1, St SX M M1 → K (-1000000002) M1) : wp_X7_edges a M K := by
  have hn := hV.1
  unfold wp_X7_edges
  refine s7 (fun j hj ej => b1b ?_) (fun g => b0b (e7 1 (by decide) (by decide) (hb g _ (St.rf.up rfl))))
  subst ej
  rw [nI_clamp (by omega)]
  refine ⟨vp_in_nI hj (by decide), ?_⟩
  unfold wp_X3_isMissing
  refine ⟨fun q => b0a ?_, fun q => b1a (e7 2 (by decide) (by decide) (hm j hj rfl q _ (St.rf.up rfl)))⟩
  obtain ⟨z, hz, ez⟩ := hS j hj
  rw [ez, hG.1, min_nI (by omega) (by omega)]
  rintro _ rfl
  refine loopN (L := fun k i M' => wp_X7_edges_L56 K (70 + 2 * j) (nI (min n z)) k i M') (min n z) (fun i M' => St (fun c => decide (14 ≤ c) && decide (c ≤ 22)) M M' ∧ RG 12 n h (edV (M (71 + 2 * j)) i V) M' ∧ RV n (edV (M (71 + 2 * j)) i V) ∧ edV (M (71 + 2 * j)) i V 9 = V 9 ∧ edV (M (71 + 2 * j)) i V 0 = V 0 ∧ edgeN (M (71 + 2 * j)) i = i) ?_ 0 (Nat.zero_le _) ⟨St.rf, hG, hV, rfl, rfl, rfl⟩
  intro i M' k hi hs ih
  obtain ⟨hs, hr, hv, h9, h0, he⟩ := hs
  show wp_X7_edges_l56 K (70 + 2 * j) (nI (min n z)) (wp_X7_edges_L56 K (70 + 2 * j) (nI (min n z)) k) (nI i) M'
  unfold wp_X7_edges_l56
  have er : M' (71 + 2 * j) = M (71 + 2 * j) := hs _ (by simp; omega)
  rw [rf_sh hj, ln_sh hj, er]
  have fin : edgeN (M (71 + 2 * j)) (min n z) = i → K (nI i) M' := fun e => by
    have := hg j z hj rfl ez hz q M' hs
    rw [e] at this; exact this hr hv h9 h0
  refine ⟨fun q2 => ?_, fun q2 => ?_⟩
  · have : i = min n z := by have := le_of_nI q2 (by omega) (by omega); omega
    have f2 := fin (by rw [← this]; exact he)
    rw [this] at f2; exact f2
  · have hi2 : i < min n z := lt_of_nI q2 (by omega) (by omega)
    have hv2 : vp_in (nI i) 40 := vp_in_nI (by omega) (by decide)
    refine ⟨hv2, ?_⟩
    rw [nI_clamp (by omega)]
    refine w7n 0 99 (by decide) (by decide) (fun g1 g2 => ⟨vp_in_nI (by omega) (by decide), hv2, ?_⟩) (fun g => fin (edgeN_stop he g _ (by omega)))
    obtain ⟨x, hx, ex⟩ := nat_of 99 g1 g2 (by decide)
    rw [er, nI_1, ex]
    have hcl : (M (71 + 2 * j) i).toNatClampNeg = x := by rw [ex, nI_clamp (by omega)]
    have hput : RG 12 n h (edV (M (71 + 2 * j)) (i + 1) V) (up M' (14 + i) 3 (nI x)) := by
      show RG 12 n h (adf (edV (M (71 + 2 * j)) i V) (14 + 7 * i) (M (71 + 2 * j) i).toNatClampNeg) _
      rw [hcl]; exact hr.putA (s := 14) (by omega) hn (by unfold FS; omega)
    refine ih _ hi2 ⟨hs.up (by simp; omega), hput, ?_, ?_, ?_, ?_⟩
    · show RV n (adf (edV (M (71 + 2 * j)) i V) (14 + 7 * i) (M (71 + 2 * j) i).toNatClampNeg)
      rw [hcl]; exact hv.putA (s := 14) (by omega) (by omega) (by omega)
    · show adf (edV (M (71 + 2 * j)) i V) (14 + 7 * i) _ 9 = V 9
      rw [adf_o (by omega)]; exact h9
    · show adf (edV (M (71 + 2 * j)) i V) (14 + 7 * i) _ 0 = V 0
      rw [adf_o (by omega)]; exact h0
    · unfold edgeN
      rw [if_pos ⟨he, g1, g2⟩]
theorem y_edges {a : Int32} {h : Nat → Int32} {V : Nat → Nat} (hR : RR n h V (M 80)) (hn : n ≤ 9) (hS : SMc M) (hg : ∀ j z : Nat, j < 4 → a = nI j → M 88 j = nI z → z ≤ 40 → ¬ M 87 j = 0 → ∀ M1, St (fun c => c == 80) M M1 → (∀ k, (k < 11 ∨ 74 ≤ k) → M1 80 k = M 80 k) → RR n h (edV (fun k => M 89 (40 * j + k)) (edgeN (fun k => M 89 (40 * j + k)) (min n z)) V) (M1 80) → K (nI (edgeN (fun k => M 89 (40 * j + k)) (min n z))) M1)
    (hb : ¬ (0 ≤ a.toInt ∧ a.toInt ≤ 3) → ∀ M1, St SMx M M1 → K (-1000000001) M1) (hm : ∀ j : Nat, j < 4 → a = nI j → M 87 j = 0 → ∀ M1, St SMx M M1 → K (-1000000002) M1) : wp_X8_edges a M K := by
  unfold wp_X8_edges
  refine s8 (fun j hj ej => b1b ?_) (fun g => b0b (e8 1 (by decide) (by decide) (hb g _ (St.rf.up rfl))))
  subst ej
  have hv : vp_in (nI j) 4 := vp_in_nI hj (by decide)
  rw [nI_clamp (by omega)]
  refine ⟨hv, fun q => ?_, fun q => e8 2 (by decide) (by decide) (hm j hj rfl q _ (St.rf.up rfl))⟩
  obtain ⟨z, hz, ez⟩ := hS j hj
  refine loopN (L := fun m i M' => wp_X8_edges_L32 K (nI j) m i M') (min n z) (fun i M' => St (fun c => c == 80) M M' ∧ (∀ k, (k < 11 ∨ 74 ≤ k) → M' 80 k = M 80 k) ∧ RR n h (edV (fun k => M 89 (40 * j + k)) i V) (M' 80) ∧ edgeN (fun k => M 89 (40 * j + k)) i = i) ?_ 0 (Nat.zero_le _) ⟨St.rf, fun _ _ => rfl, hR, rfl⟩
  intro i M' m hi hs ih
  obtain ⟨hs, hl, hr, he⟩ := hs
  show wp_X8_edges_l32 K (nI j) (wp_X8_edges_L32 K (nI j) m) (nI i) M'
  unfold wp_X8_edges_l32
  have e88 : M' 88 = M 88 := hs 88 rfl
  have e89 : M' 89 = M 89 := hs 89 rfl
  rw [nI_clamp (by omega), e88, ez]
  have fin : edgeN (fun k => M 89 (40 * j + k)) (min n z) = i → K (nI i) M' := fun e => by
    have := hg j z hj rfl ez hz q M' hs hl
    rw [e] at this; exact this hr
  refine ⟨hv, fun q2 => ?_, fun q2 => ?_⟩
  · have hzi := le_of_nI q2 (by omega) (by omega)
    refine fin ?_
    have : min n z = i := by omega
    rw [this]; exact he
  · have hiz : i < z := lt_of_nI q2 (by omega) (by omega)
    refine q8z hn hr.1 (fun i' hi' ei => ?_) (fun g => fin ?_)
    · have : i' = i := ((nI_eq (by omega) (by omega)).mp ei).symm
      subst this
      have hv2 : vp_in (nI (40 * j + i')) 160 := vp_in_nI (by omega) (by decide)
      rw [ix40, nI_clamp (by omega), nI_1]
      refine ⟨hv2, ?_⟩
      rw [e89]
      refine w8z 0 99 (by decide) (by decide) (fun g1 g2 => ⟨hv2, ?_⟩) (fun g => fin (edgeN_stop he g _ (by omega)))
      obtain ⟨x, hx, ex⟩ := nat_of 99 g1 g2 (by decide)
      rw [e89, ex]
      have hcl : (M 89 (40 * j + i')).toNatClampNeg = x := by rw [ex, nI_clamp (by omega)]
      refine i_gets 3 (14 + 7 * i') x hn hr hi' (by omega) (fun hr2 => ih _ (by omega) ⟨hs.up rfl, fun k hk => ?_, ?_, ?_⟩)
      · rw [up_slot _ (by omega)]; exact hl k hk
      · show RR n h (adf (edV (fun k => M 89 (40 * j + k)) i' V) (14 + 7 * i') (M 89 (40 * j + i')).toNatClampNeg) _
        rw [hcl]; exact hr2
      · unfold edgeN
        rw [if_pos ⟨he, g1, g2⟩]
    · have : min n z = i := by
        rw [nI_toInt (by omega)] at g; omega
      rw [this]; exact he
theorem edV_congr {f g : Nat → Int32} {V : Nat → Nat} : ∀ m : Nat, (∀ k, k < m → f k = g k) → edV f m V = edV g m V
  | 0, _ => rfl
  | m + 1, h => by
    show adf (edV f m V) (14 + 7 * m) (f m).toNatClampNeg = adf (edV g m V) (14 + 7 * m) (g m).toNatClampNeg
    rw [edV_congr m (fun k hk => h k (by omega)), h m (by omega)]
theorem z2_edges {a : Int32} (hI : Inv2 i M) : wp_X7_edges a M (fun r1 M1 => wp_X8_edges a M1 (fun r2 M2 => r1 = r2 ∧ Inv2 (i + 1) M2)) := by
  obtain ⟨n, b, t, V, h, hS⟩ := hI.2.1
  have hn := hS.rv.1
  have hH := hI.2.2.1
  have hR := hS.2.2.1
  have hm : ∀ {M1 : Mem}, (∀ c, 79 ≤ c → M1 c = M c) → SMc M1 := fun h j hj => by rw [h 88 (by omega)]; exact hH.m j hj
  have inj : ∀ {p q : Nat} {v : Int32}, p < 4 → q < 4 → v = nI p → v = nI q → q = p := fun hp hq e1 e2 => (nI_eq (by omega) (by omega)).mp (e2.symm.trans e1)
  refine x_edges hS.1 hS.rv hH.c (fun j z hj ej ez hz hb M1 h1 g1 g2 g3 g4 => ?_) (fun g M1 h1 => ?_) (fun j hj ej hb M1 h1 => ?_)
  · have em : ∀ c, (c < 14 ∨ 22 < c) → M1 c = M c := fun c hc => h1 c (by simp; omega)
    obtain ⟨z', hz', f1, f2, f3, f4⟩ := hH j hj
    have hzz : z' = z := (nI_eq (by omega) (by omega)).mp (f1.symm.trans ez)
    subst hzz
    refine y_edges (n := n) (h := h) (V := V) (by rw [em 80 (by omega)]; exact hR) hn (hm (fun c hc => em c (by omega))) (fun j' z2 hj' ej' ez' hz2 hb' M2 d1 d2 d3 => ?_) (fun g => absurd (by rw [ej, nI_toInt (by omega)]; omega) g) (fun j' hj' ej' hb' => ?_)
    · have := inj hj hj' ej ej'; subst this
      have hz3 : z2 = z' := (nI_eq (by omega) (by omega)).mp (ez'.symm.trans (by rw [em 88 (by omega)]; exact f2))
      subst hz3
      rw [em 89 (by omega)] at d3 ⊢
      have hc1 : edgeN (fun k => M 89 (40 * j' + k)) (min n z2) = edgeN (M (71 + 2 * j')) (min n z2) := (edgeN_congr (min n z2) (fun k hk => f4 k (by omega))).symm
      have hle := edgeN_le (M (71 + 2 * j')) (min n z2)
      rw [hc1] at d3 ⊢
      rw [show edV (fun k => M 89 (40 * j' + k)) (edgeN (M (71 + 2 * j')) (min n z2)) V = edV (M (71 + 2 * j')) (edgeN (M (71 + 2 * j')) (min n z2)) V from edV_congr _ (fun k hk => (f4 k (by omega)).symm)] at d3
      generalize edV (M (71 + 2 * j')) (edgeN (M (71 + 2 * j')) (min n z2)) V = V' at g1 g2 g3 g4 d3
      have ex : ∀ c, c ≠ 80 → M2 c = M1 c := fun c hc => d1 c (by simp [hc])
      have es : ∀ c, (c < 14 ∨ 22 < c) → c ≠ 80 → M2 c = M c := fun c c1 c2 => by rw [ex c c2, em c c1]
      have e8 : ∀ k, (k < 11 ∨ 74 ≤ k) → M2 80 k = M 80 k := fun k hk => by rw [d2 k hk, em 80 (by omega)]
      refine ⟨rfl, hI.rest (fun c hc => es c (by simp at hc; omega) (by simp at hc; omega)) (by rw [es 79 (by omega) (by omega)]) (by rw [es 79 (by omega) (by omega)]) (by rw [es 79 (by omega) (by omega)]) (hS.num (fun c c1 c2 c3 c4 c5 => es c (by omega) (by omega)) (fun k hk => by rw [es 1 (by omega) (by omega)]) (fun k hk => e8 k (by omega)) (by rw [es 1 (by omega) (by omega), e8 1 (by omega)]; exact hS.bt.2.2.1) (g1.same hn (fun c c1 c2 => ex c (by omega))) (by rw [es 12 (by omega) (by omega), g3]; exact hS.2.1) d3 g2 (by rw [g4]; exact hS.v0) hS.hh)⟩
    · have := inj hj hj' ej ej'; subst this
      rw [em 87 (by omega), ← f3] at hb'
      exact absurd hb' hb
  · have em : ∀ c, 79 ≤ c → M1 c = M c := fun c hc => h1 c (by simp <;> omega)
    exact y_edges (n := n) (h := h) (V := V) (by rw [em 80 (by omega)]; exact hR) hn (hm (fun c hc => em c (by omega))) (fun j z hj ej => absurd (by rw [ej, nI_toInt (by omega)]; omega) g) (fun _ M2 h2 => ⟨rfl, hI.th h1 h2⟩) (fun j hj ej => absurd (by rw [ej, nI_toInt (by omega)]; omega) g)
  · have em : ∀ c, 79 ≤ c → M1 c = M c := fun c hc => h1 c (by simp <;> omega)
    obtain ⟨z', hz', f1, f2, f3, f4⟩ := hH j hj
    refine y_edges (n := n) (h := h) (V := V) (by rw [em 80 (by omega)]; exact hR) hn (hm (fun c hc => em c (by omega))) (fun j' z2 hj' ej' ez' hz2 hb' M2 h2 => ?_) (fun g => absurd (by rw [ej, nI_toInt (by omega)]; omega) g) (fun j' hj' ej' hb' M2 h2 => ⟨rfl, hI.th h1 h2⟩)
    have := inj hj hj' ej ej'; subst this
    rw [em 87 (by omega), ← f3] at hb'
    exact absurd hb hb'
end ZH
