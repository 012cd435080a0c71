theorem q7 {n : Nat} {q : Int32} {M : Mem} (hn : n ≤ 9) (hm : M 12 3 = nI n) {K : Int32 → Mem → Prop} (h1 : ∀ j : Nat, j < n → q = nI j → K 1 M) (h0 : ¬ (0 ≤ q.toInt ∧ q.toInt < n) → K 0 M) : wp_X7_isQuarrel q M K := by
  unfold wp_X7_isQuarrel
  rw [hm]
  refine w7 0 ((n : Int) - 1) (by decide) (nI_m1 (by omega)) (fun g1 g2 => ⟨Or.inr rfl, ?_⟩) (fun g => ⟨Or.inl rfl, h0 (by omega)⟩)
  obtain ⟨j, hj, rfl⟩ := nat_of (x := q) 8 (by omega) (by omega) (by decide)
  have := nI_toInt (n := j) (by omega)
  exact h1 j (by omega) rfl
theorem q7z {n : Nat} {q : Int32} {M : Mem} (hn : n ≤ 9) (hm : M 12 3 = nI n) {A B : Int32 → Mem → Prop} (h1 : ∀ j : Nat, j < n → q = nI j → B 1 M) (h0 : ¬ (0 ≤ q.toInt ∧ q.toInt < n) → A 0 M) : wp_X7_isQuarrel q M (fun r N => (r = 0 → A r N) ∧ (¬ r = 0 → B r N)) := q7 hn hm (fun j g1 g2 => b1a (h1 j g1 g2)) (fun g => b0a (h0 g))
theorem q7n {n : Nat} {q : Int32} {M : Mem} (hn : n ≤ 9) (hm : M 12 3 = nI n) {A B : Int32 → Mem → Prop} (h1 : ∀ j : Nat, j < n → q = nI j → B 1 M) (h0 : ¬ (0 ≤ q.toInt ∧ q.toInt < n) → A 0 M) : wp_X7_isQuarrel q M (fun r N => (¬ r = 0 → B r N) ∧ (r = 0 → A r N)) := q7 hn hm (fun j g1 g2 => b1b (h1 j g1 g2)) (fun g => b0b (h0 g))
theorem e7b {M0 M : Mem} {K : Int32 → Mem → Prop} (hs : St SX M0 M) (hk : ∀ r M1, St SX M0 M1 → K r M1) : wp_X7_refuse (-1000000001) M K := e7 1 (by decide) (by decide) (hk _ _ (hs.up rfl))
theorem e7n {M0 M : Mem} {K : Int32 → Mem → Prop} (hs : St SX M0 M) (hk : ∀ r M1, St SX M0 M1 → K r M1) : wp_X7_refuse (-1000000002) M K := e7 2 (by decide) (by decide) (hk _ _ (hs.up rfl))
theorem e7k {M0 M : Mem} {K : Int32 → Mem → Prop} (hs : St SX M0 M) (hk : ∀ r M1, St SX M0 M1 → K r M1) : wp_X7_refuse (-1000000005) M K := e7 5 (by decide) (by decide) (hk _ _ (hs.up rfl))
section TP
variable {n : Nat} {M : Mem} {K : Int32 → Mem → Prop}
theorem p_ended {a : Int32} (hC : CN n M) (hk : ∀ r M1, St SX M M1 → K r M1) : wp_X7_ended a M K := by
  unfold wp_X7_ended
  refine w7n 0 60 (by decide) (by decide) (fun g1 g2 => ?_) (fun _ => e7b St.rf hk)
  obtain ⟨N, hN, rfl⟩ := nat_of 60 g1 g2 (by decide)
  exact th_think hC St.rf (fun M1 h1 => th_days hN hC h1 (fun M2 h2 => any_setEnded GF49 hC.1 h2.2.1 (fun r => hk _ _ h2.1)))
theorem p_fee {a : Int32} (hC : CN n M) (hk : ∀ r M1, St SX M M1 → K r M1) : wp_X7_fee a M K := by
  unfold wp_X7_fee
  refine w7n 0 60 (by decide) (by decide) (fun g1 g2 => ?_) (fun _ => e7b St.rf hk)
  obtain ⟨N, hN, rfl⟩ := nat_of 60 g1 g2 (by decide)
  exact th_think hC St.rf (fun M1 h1 => th_days hN hC h1 (fun M2 h2 => hk _ _ h2.1))
theorem p_then {a b c : Int32} (hC : CN n M) (hk : ∀ r M1, St SX M M1 → K r M1) : wp_X7_then a b c M K := by
  have hn := hC.1
  unfold wp_X7_then
  refine w7z 0 60 (by decide) (by decide) (fun g1 g2 => ?_) (fun _ => e7b St.rf hk)
  obtain ⟨N, hN, rfl⟩ := nat_of 60 g1 g2 (by decide)
  refine q7z hC.1 hC.2.1 (fun j hj ej => ?_) (fun _ => e7b St.rf hk)
  subst ej
  refine w7n 0 2 (by decide) (by decide) (fun g1 g2 => ?_) (fun _ => e7b St.rf hk)
  exact th_think hC St.rf (fun M1 h1 => th_days hN hC h1 (fun M2 h2 => ⟨vp_in_nI (by omega) (by decide), fun _ => hk _ _ h2.1, fun _ => ⟨fun _ => ⟨fun _ => hk _ _ h2.1, fun _ => hk _ _ h2.1⟩, fun _ => hk _ _ h2.1⟩⟩))
theorem p_when {a : Int32} (hC : CN n M) (hk : ∀ r M1, St SX M M1 → K r M1) : wp_X7_when a M K := by
  have hn := hC.1
  unfold wp_X7_when
  refine q7n hC.1 hC.2.1 (fun j hj ej => ?_) (fun _ => e7b St.rf hk)
  subst ej
  refine th_think hC St.rf (fun M1 h1 => ?_)
  refine loopN (L := fun k i M' => wp_X7_when_L21 K (nI j) k i M') 61 (fun _ M' => T49 n M M') ?_ 0 (Nat.zero_le _) h1
  intro i M' k hi hs ih
  show wp_X7_when_l21 K (nI j) (wp_X7_when_L21 K (nI j) k) (nI i) M'
  unfold wp_X7_when_l21
  refine ⟨fun _ => e7n hs.1 hk, fun q => ⟨vp_in_nI (by omega) (by decide), fun _ => ?_, fun _ => hk _ _ hs.1⟩⟩
  have hi2 : i < 61 := by
    rcases Nat.lt_or_ge i 61 with g | g
    · exact g
    · exact absurd (show nI 60 < nI i from nI_lt (by omega) (by omega)) q
  rw [nI_1]
  exact th_pass hC hs (fun M2 h2 => ih _ hi2 h2)
theorem p_start {a b : Int32} (hC : CN n M) (hk : ∀ r M1, St SX M M1 → K r M1) : wp_X7_start a b M K := by
  unfold wp_X7_start
  refine w7z 0 60 (by decide) (by decide) (fun g1 g2 => ?_) (fun _ => e7b St.rf hk)
  obtain ⟨N, hN, rfl⟩ := nat_of 60 g1 g2 (by decide)
  refine w7n 0 1 (by decide) (by decide) (fun g1 g2 => ?_) (fun _ => e7b St.rf hk)
  refine loopNA (α := Int32 × Int32) (L := fun k a i M' => wp_X7_start_L34 K (nI N) b k a.1 a.2 i M') 10 (fun _ _ M' => St SX M M') ?_ 0 (a := (0, -1)) (Nat.zero_le _) St.rf
  intro i a M' k hi hs ih
  show wp_X7_start_l34 K (nI N) b (wp_X7_start_L34 K (nI N) b k) a.1 a.2 (nI i) M'
  unfold wp_X7_start_l34
  refine ⟨fun _ => ⟨fun _ => hk _ _ hs, fun _ => hk _ _ hs⟩, fun q => ?_⟩
  have hi2 : i < 10 := lt_of_nI (a := 10) q (by omega) (by omega)
  rw [nI_1]
  exact th_think hC hs (fun M1 h1 => th_days hN hC (h1.upg (by omega)) (fun M2 h2 => any_endedMany GF49 hC.1 h2.2.1 (fun r => ⟨fun _ => ih (a.1, a.2) _ hi2 h2.1, fun _ => any_endedMany GF49 hC.1 h2.2.1 (fun r2 => ih (nI i, r2) _ hi2 h2.1)⟩)))
theorem p_pace {a b : Int32} (hC : CN n M) (hk : ∀ r M1, St SX M M1 → K r M1) : wp_X7_pace a b M K := by
  unfold wp_X7_pace
  refine w7z 0 60 (by decide) (by decide) (fun g1 g2 => ?_) (fun _ => e7b St.rf hk)
  obtain ⟨N, hN, rfl⟩ := nat_of 60 g1 g2 (by decide)
  refine w7n 0 1 (by decide) (by decide) (fun g1 g2 => ?_) (fun _ => e7b St.rf hk)
  refine loopNA (α := Int32 × Int32) (L := fun k a i M' => wp_X7_pace_L34 K (nI N) b k a.1 a.2 i M') 10 (fun _ _ M' => St SX M M') ?_ 0 (a := (0, -1)) (Nat.zero_le _) St.rf
  intro i a M' k hi hs ih
  show wp_X7_pace_l34 K (nI N) b (wp_X7_pace_L34 K (nI N) b k) a.1 a.2 (nI i) M'
  unfold wp_X7_pace_l34
  refine ⟨fun _ => ⟨fun _ => hk _ _ hs, fun _ => hk _ _ hs⟩, fun q => ?_⟩
  have hi2 : i < 10 := lt_of_nI (a := 10) q (by omega) (by omega)
  rw [nI_1]
  exact th_think hC hs (fun M1 h1 => th_days hN hC (h1.upg (by omega)) (fun M2 h2 => any_endedMany GF49 hC.1 h2.2.1 (fun r => ⟨fun _ => ih (a.1, a.2) _ hi2 h2.1, fun _ => any_endedMany GF49 hC.1 h2.2.1 (fun r2 => ih (nI i, r2) _ hi2 h2.1)⟩)))
theorem p_hand {a b : Int32} (hC : CN n M) (hk : ∀ r M1, St SX M M1 → K r M1) : wp_X7_hand a b M K := by
  have hn := hC.1
  unfold wp_X7_hand
  refine q7z hC.1 hC.2.1 (fun j hj ej => ?_) (fun _ => e7b St.rf hk)
  subst ej
  refine w7n 0 20 (by decide) (by decide) (fun g1 g2 => ?_) (fun _ => e7b St.rf hk)
  obtain ⟨N, hN, rfl⟩ := nat_of 20 g1 g2 (by decide)
  refine any_setItHangsOn (by omega) (fun r1 => any_setEnded GF12 hC.1 hC.2.1 (fun r2 => ?_))
  generalize (r1 &&& (r2 ^^^ (-1))) = hp
  refine loopNA (L := fun k a i M' => wp_X7_hand_L56 K (nI j) (nI N) hp k a i M') 512 (fun _ _ M' => St SX M M') ?_ 0 (Nat.zero_le _) St.rf
  intro i a M' k hi hs ih
  show wp_X7_hand_l56 K (nI j) (nI N) hp (wp_X7_hand_L56 K (nI j) (nI N) hp k) a (nI i) M'
  unfold wp_X7_hand_l56
  refine ⟨fun _ => ⟨fun _ => hk _ _ hs, fun _ => e7n hs hk⟩, fun q => ?_⟩
  have hi2 : i < 512 := lt_of_nI (a := 512) q (by omega) (by omega)
  have hb : ∀ t, wp_X7_hand_b87 K (wp_X7_hand_L56 K (nI j) (nI N) hp k) (nI j) (nI N) hp a (nI i) t M' := by
    intro t
    unfold wp_X7_hand_b87
    rw [nI_1]
    exact ⟨fun _ => ih _ _ hi2 hs, fun _ => ⟨fun _ => ih _ _ hi2 hs, fun _ => th_think hC hs (fun M1 h1 => any_sharpen hC.1 h1 (fun M2 h2 => th_ends (by omega) hj hC h2 (fun r M3 h3 => ⟨fun _ => ih _ _ hi2 h3.1, fun _ => ih _ _ hi2 h3.1⟩)))⟩⟩
  exact ⟨fun _ => hb _, fun _ => any_bitCount (fun _ => any_bitCount (fun _ => ⟨fun _ => hb _, fun _ => hb _⟩))⟩
theorem p_first {a b : Int32} (hC : CN n M) (hk : ∀ r M1, St SX M M1 → K r M1) : wp_X7_first a b M K := by
  have hn := hC.1
  unfold wp_X7_first
  refine w7z 0 60 (by decide) (by decide) (fun g1 g2 => ?_) (fun _ => e7b St.rf hk)
  obtain ⟨N, hN, rfl⟩ := nat_of 60 g1 g2 (by decide)
  refine w7n 0 1 (by decide) (by decide) (fun g1 g2 => ?_) (fun _ => e7b St.rf hk)
  refine loopNA (α := Int32 × Int32) (L := fun k a i M' => wp_X7_first_L34 K (nI N) b k a.1 a.2 i M') n (fun _ _ M' => St SX M M') ?_ 0 (a := (-1, 0)) (Nat.zero_le _) St.rf
  intro i a M' k hi hs ih
  show wp_X7_first_l34 K (nI N) b (wp_X7_first_L34 K (nI N) b k) a.1 a.2 (nI i) M'
  unfold wp_X7_first_l34
  rw [(hC.keep hs).2.1]
  refine ⟨fun _ => ⟨fun _ => ⟨fun _ => hk _ _ hs, fun _ => hk _ _ hs⟩, fun _ => e7n hs hk⟩, fun q => ?_⟩
  have hi2 : i < n := lt_of_nI q (by omega) (by omega)
  rw [nI_1, nI_clamp (by omega)]
  exact th_think hC hs (fun M1 h1 => ⟨vp_in_nI (by omega) (by decide), th_daysH hN hC (h1.up1 (by omega) (Or.inr (Or.inr rfl))) (fun M2 h2 => ⟨fun _ => ih (_, _) _ hi2 h2.1, fun _ => ⟨fun _ => ih (a.1, a.2) _ hi2 h2.1, fun _ => ih (_, _) _ hi2 h2.1⟩⟩)⟩)
theorem p_last {a : Int32} (hC : CN n M) (hk : ∀ r M1, St SX M M1 → K r M1) : wp_X7_last a M K := by
  have hn := hC.1
  unfold wp_X7_last
  refine w7n 0 1 (by decide) (by decide) (fun g1 g2 => ?_) (fun _ => e7b St.rf hk)
  refine th_think hC St.rf (fun M1 h1 => ?_)
  refine loopNA (α := Int32 × Int32) (L := fun k b i M' => wp_X7_last_L27 K a k b.1 b.2 i M') 61 (fun _ _ M' => T49 n M M') ?_ 1 (a := (-1, 0)) (by omega) h1
  intro i b M' k hi hs ih
  show wp_X7_last_l27 K a (wp_X7_last_L27 K a k) b.1 b.2 (nI i) M'
  unfold wp_X7_last_l27
  refine ⟨fun _ => ⟨fun _ => ⟨fun _ => hk _ _ hs.1, fun _ => hk _ _ hs.1⟩, fun _ => e7n hs.1 hk⟩, fun q => ?_⟩
  have hi2 : i < 61 := by
    rcases Nat.lt_or_ge i 61 with g | g
    · exact g
    · exact absurd (show nI 60 < nI i from nI_lt (by omega) (by omega)) q
  rw [nI_1]
  exact any_setEnded GF49 hC.1 hs.2.1 (fun r1 => th_pass hC hs (fun M2 h2 => any_setEnded GF49 hC.1 h2.2.1 (fun r2 => ⟨fun _ => ih (b.1, b.2) _ hi2 h2, fun _ => any_greatestOf (fun r3 => ih (r3, nI i) _ hi2 h2)⟩)))
theorem p_sharp {a b : Int32} (hC : CN n M) (hk : ∀ r M1, St SX M M1 → K r M1) : wp_X7_sharp a b M K := by
  have hn := hC.1
  unfold wp_X7_sharp
  refine q7z hC.1 hC.2.1 (fun j hj ej => ?_) (fun _ => e7b St.rf hk)
  subst ej
  refine w7n 1 60 (by decide) (by decide) (fun g1 g2 => ?_) (fun _ => e7b St.rf hk)
  obtain ⟨N, hN, rfl⟩ := nat_of (x := b) 60 (by omega) g2 (by decide)
  refine loopN (L := fun k i M' => wp_X7_sharp_L27 K (nI j) (nI N) k i M') 100 (fun _ M' => St SX M M') ?_ 0 (Nat.zero_le _) St.rf
  intro i M' k hi hs ih
  show wp_X7_sharp_l27 K (nI j) (nI N) (wp_X7_sharp_L27 K (nI j) (nI N) k) (nI i) M'
  unfold wp_X7_sharp_l27
  refine ⟨fun _ => e7n hs hk, fun q => ?_⟩
  have hi2 : i < 100 := by
    rcases Nat.lt_or_ge i 100 with g | g
    · exact g
    · exact absurd (show nI 99 < nI i from nI_lt (by omega) (by omega)) q
  rw [nI_1]
  refine th_think hC hs (fun M1 h1 => ⟨vp_in_nI (by omega) (by decide), ?_⟩)
  rw [nI_clamp (by omega)]
  exact th_ends hN hj hC (h1.up1 (by omega) (Or.inl (by omega))) (fun r M2 h2 => ⟨fun _ => ih _ hi2 h2.1, fun _ => hk _ _ h2.1⟩)
theorem p_off {a : Int32} (hC : CN n M) (hk : ∀ r M1, St SX M M1 → K r M1) : wp_X7_off a M K := by
  unfold wp_X7_off
  refine w7n 0 60 (by decide) (by decide) (fun g1 g2 => ?_) (fun _ => e7b St.rf hk)
  obtain ⟨N, hN, rfl⟩ := nat_of 60 g1 g2 (by decide)
  refine th_think hC St.rf (fun M1 h1 => th_daysH hN hC h1 (fun M2 h2 => th_think hC h2.1 (fun M3 h3 => ⟨fun _ => hk _ _ h3.1, fun q => ?_⟩)))
  obtain ⟨j, rfl⟩ : ∃ j, N = j + 1 := ⟨N - 1, by
    rcases Nat.eq_zero_or_pos N with e | e
    · subst e; exact absurd (by decide) q
    · omega⟩
  rw [nI_pred]
  exact th_rest hC h3 (fun M4 h4 => th_daysH (by omega) hC h4 (fun M5 h5 => hk _ _ h5.1))
theorem p_chain {a : Int32} (hC : CN n M) (hk : ∀ r M1, St SX M M1 → K r M1) : wp_X7_chain a M K := by
  unfold wp_X7_chain
  refine q7n hC.1 hC.2.1 (fun j hj ej => ?_) (fun _ => e7b St.rf hk)
  subst ej
  exact any_setHangingOn hC.1 hj hC.2.1 (fun _ => any_setEnded GF12 hC.1 hC.2.1 (fun _ => hk _ _ St.rf))
theorem p_free (hC : CN n M) (hk : ∀ r M1, St SX M M1 → K r M1) : wp_X7_free M K := by
  unfold wp_X7_free
  exact any_setFree GF12 hC.1 hC.2.1 hC.2.2.1 (fun _ => hk _ _ St.rf)
theorem p_odds {a b c : Int32} (hC : CN n M) (hk : ∀ r M1, St SX M M1 → K r M1) : wp_X7_odds a b c M K := by
  unfold wp_X7_odds
  refine q7z hC.1 hC.2.1 (fun j hj ej => ?_) (fun _ => e7b St.rf hk)
  subst ej
  refine w7z 0 60 (by decide) (by decide) (fun g1 g2 => ?_) (fun _ => e7b St.rf hk)
  obtain ⟨N, hN, rfl⟩ := nat_of 60 g1 g2 (by decide)
  refine w7n 0 1 (by decide) (by decide) (fun g1 g2 => ?_) (fun _ => e7b St.rf hk)
  refine loopNA (L := fun k a i M' => wp_X7_odds_L40 K (nI j) (nI N) c k a i M') 10 (fun _ _ M' => St SX M M') ?_ 0 (Nat.zero_le _) St.rf
  intro i a M' k hi hs ih
  show wp_X7_odds_l40 K (nI j) (nI N) c (wp_X7_odds_L40 K (nI j) (nI N) c k) a (nI i) M'
  unfold wp_X7_odds_l40
  refine ⟨fun _ => any_greatestDivisor (fun r hr => ⟨fun _ => ⟨hr, hk _ _ hs⟩, fun _ => ⟨hr, hk _ _ hs⟩⟩), fun q => ?_⟩
  have hi2 : i < 10 := lt_of_nI (a := 10) q (by omega) (by omega)
  rw [nI_1]
  exact th_think hC hs (fun M1 h1 => th_ends hN hj hC (h1.upg (by omega)) (fun r M2 h2 => ⟨fun _ => ih _ _ hi2 h2.1, fun _ => ih _ _ hi2 h2.1⟩))
end TP
