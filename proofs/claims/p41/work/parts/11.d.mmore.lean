section MO
variable {n : Nat} {M : Mem} {K : Int32 → Mem → Prop}
theorem m_quarrel {km a e o : Int32} (hR : RO n (M 80))
    (hg : QG n km a e o → n < 9 → ∀ M1, St (fun b => b == 80) M M1 → M1 80 2 = nI (n + 1) → (∀ k, k ≠ 2 → (k < 11 + 7 * n ∨ 18 + 7 * n ≤ k) → M1 80 k = M 80 k) → M1 80 (11 + 7 * n) = km / 10 → M1 80 (12 + 7 * n) = km - km / 10 * 10 → M1 80 (13 + 7 * n) = a → M1 80 (15 + 7 * n) = o → K (nI n) M1)
    (hb : ¬ QG n km a e o → ∀ M1, St SMx M M1 → K (-1000000001) M1) (hf : QG n km a e o → n = 9 → ∀ M1, St SMx M M1 → K (-1000000004) M1) : wp_X8_quarrel km a e o M K := by
  have hn := hR.1
  unfold wp_X8_quarrel
  have hB : ¬ QG n km a e o → wp_X8_errs (-1000000001) M K := fun g => e8 1 (by decide) (by decide) (hb g _ (St.rf.up rfl))
  refine w8z 0 69 (by decide) (by decide) (fun g1 g2 => ?_) (fun g => hB (fun h => g h.1))
  refine m_area (fun g3 g4 => ?_) (fun g => hB (fun h => g h.2.1))
  refine w8z 0 99 (by decide) (by decide) (fun g5 g6 => ?_) (fun g => hB (fun h => g h.2.2.1))
  rw [hR.2.1]
  refine w8n (-1) ((n : Int) - 1) (by decide) (nI_m1 (by omega)) (fun g7 g8 => ?_) (fun g => hB (fun h => g h.2.2.2))
  have hq : QG n km a e o := ⟨⟨g1, g2⟩, ⟨g3, g4⟩, ⟨g5, g6⟩, g7, g8⟩
  rw [hR.2.1]
  have ex := pk_eq (x := nI n) (y := 9) n 9 (A := n = 9) (B := n ≠ 9) id id
  refine ⟨fun q => ?_, fun q => e8 4 (by decide) (by decide) (hf hq (ex.1 q) _ (St.rf.up rfl))⟩
  have h9 := ex.2 q
  refine m_gets 0 (by omega) (m_gets 1 (by omega) (m_gets 2 (by omega) (m_gets 3 (by omega) (m_gets 4 (by omega) (m_gets 5 (by omega) (m_gets 6 (by omega) ?_))))))
  have e2 : (up (up (up (up (up (up (up M 80 (11 + 7 * n + 0) (km / 10)) 80 (11 + 7 * n + 1) (km - km / 10 * 10)) 80 (11 + 7 * n + 2) a) 80 (11 + 7 * n + 3) e) 80 (11 + 7 * n + 4) o) 80 (11 + 7 * n + 5) 0) 80 (11 + 7 * n + 6) 0) 80 2 = nI n := by
    rw [up_slot _ (by omega), up_slot _ (by omega), up_slot _ (by omega), up_slot _ (by omega), up_slot _ (by omega), up_slot _ (by omega), up_slot _ (by omega)]; exact hR.2.1
  rw [e2, nI_1]
  refine hg hq (by omega) _ ((((((((St.rf.up rfl).up rfl).up rfl).up rfl).up rfl).up rfl).up rfl).up rfl) up_same (fun k hk hk2 => ?_) ?_ ?_ ?_ ?_
  · rw [up_slot _ hk, up_slot _ (by omega), up_slot _ (by omega), up_slot _ (by omega), up_slot _ (by omega), up_slot _ (by omega), up_slot _ (by omega), up_slot _ (by omega)]
  · rw [up_slot _ (by omega), up_slot _ (by omega), up_slot _ (by omega), up_slot _ (by omega), up_slot _ (by omega), up_slot _ (by omega), up_slot _ (by omega)]; exact up_same
  · rw [up_slot _ (by omega), up_slot _ (by omega), up_slot _ (by omega), up_slot _ (by omega), up_slot _ (by omega), up_slot _ (by omega), show 12 + 7 * n = 11 + 7 * n + 1 by omega]; exact up_same
  · rw [up_slot _ (by omega), up_slot _ (by omega), up_slot _ (by omega), up_slot _ (by omega), up_slot _ (by omega), show 13 + 7 * n = 11 + 7 * n + 2 by omega]; exact up_same
  · rw [up_slot _ (by omega), up_slot _ (by omega), up_slot _ (by omega), show 15 + 7 * n = 11 + 7 * n + 4 by omega]; exact up_same
theorem ixb (q : Nat) : (11 : Int32) + 7 * nI q = nI (11 + 7 * q) := by
  rw [show (7 : Int32) = nI 7 from rfl, show (11 : Int32) = nI 11 from rfl, pk_mul, nI_add]
theorem m_become {a km : Int32} (hR : RO n (M 80)) (hg : ∀ j : Nat, j < n → a = nI j → 0 ≤ km.toInt → km.toInt ≤ 69 → K (M 80 (11 + 7 * j)) (up (up M 80 (12 + 7 * j) (km - km / 10 * 10)) 80 (11 + 7 * j) (km / 10)))
    (hb : ¬ ((0 ≤ a.toInt ∧ a.toInt < n) ∧ 0 ≤ km.toInt ∧ km.toInt ≤ 69) → ∀ M1, St SMx M M1 → K (-1000000001) M1) : wp_X8_become a km M K := by
  have hn := hR.1
  unfold wp_X8_become
  refine q8z hR.1 hR.2.1 (fun j hj ej => ?_) (fun g => e8 1 (by decide) (by decide) (hb (fun h => g h.1) _ (St.rf.up rfl)))
  subst ej
  refine w8n 0 69 (by decide) (by decide) (fun g1 g2 => ?_) (fun g => e8 1 (by decide) (by decide) (hb (fun h => g h.2) _ (St.rf.up rfl)))
  refine m_gets 1 (by omega) ?_
  rw [ixb]
  refine m_becomes (by omega) ?_
  have := hg j hj rfl g1 g2
  rw [up_slot _ (by omega), show 11 + 7 * j + 1 = 12 + 7 * j by omega]
  exact this
theorem m_change {a b c : Int32} (hR : RO n (M 80)) (hg : ∀ j : Nat, j < n → a = nI j → b = 0 → 0 ≤ c.toInt → c.toInt ≤ 9 → ∀ r, K r (up M 80 (13 + 7 * j) c))
    (hk : ¬ ((0 ≤ a.toInt ∧ a.toInt < n) ∧ b = 0 ∧ 0 ≤ c.toInt ∧ c.toInt ≤ 9) → ∀ r M1, NM n 0 (M 80 3) (M 80 4) (M 80 1) M M1 → K r M1) : wp_X8_change a b c M K := by
  have hn := hR.1
  have he : ¬ ((0 ≤ a.toInt ∧ a.toInt < n) ∧ b = 0 ∧ 0 ≤ c.toInt ∧ c.toInt ≤ 9) → wp_X8_errs (-1000000001) M K := fun g => e8 1 (by decide) (by decide) (hk g _ _ (NM.ofSX hR (St.rf.up rfl)))
  -- behind the tests of v: t is whether v is good
  have hblk : ∀ t : Int32, (t = 0 → ¬ (b = 0 ∧ 0 ≤ c.toInt ∧ c.toInt ≤ 9)) → (¬ t = 0 → ∃ w : Nat, w ≤ 3 ∧ b = nI w ∧ (w = 0 → 0 ≤ c.toInt ∧ c.toInt ≤ 9)) → wp_X8_change_b61 K a b c t M := by
    intro t h0 h1
    unfold wp_X8_change_b61
    refine q8z hR.1 hR.2.1 (fun j hj ej => ⟨fun ht => ?_, fun ht => he (fun h => h0 ht h.2)⟩) (fun g => he (fun h => g h.1))
    subst ej
    obtain ⟨w, hw, rfl, hw0⟩ := h1 ht
    rw [ixb]
    refine pk_le 2 w (fun q => ?_) (fun q => ?_)
    · have e1 : nI (11 + 7 * j) + (5 + nI w - 2) = nI (11 + 7 * j + (5 + w - 2)) := by
        rw [show (5 : Int32) = nI 5 from rfl, show (2 : Int32) = nI 2 from rfl, nI_add, pk_sub (by omega), nI_add]
      rw [e1]
      refine m_becomes (by omega) (hk (fun h => ?_) _ _ ((NM.of hR).put ?_ (by omega)))
      · have := (nI_eq (a := w) (b := 0) (by omega) (by omega)).mp h.2.1; omega
      · simp [VOL]; omega
    · have e1 : nI (11 + 7 * j) + (2 + nI w) = nI (11 + 7 * j + (2 + w)) := by
        rw [show (2 : Int32) = nI 2 from rfl, nI_add, nI_add]
      rw [e1]
      refine m_becomes (by omega) ?_
      rcases (by omega : w = 0 ∨ w = 1) with rfl | rfl
      · have := hg j hj rfl rfl (hw0 rfl).1 (hw0 rfl).2 (M 80 (11 + 7 * j + (2 + 0)))
        rw [show 11 + 7 * j + (2 + 0) = 13 + 7 * j by omega] at this ⊢
        exact this
      · exact hk (fun h => absurd h.2.1 (by decide)) _ _ ((NM.of hR).put (by simp [VOL]; omega) (by omega))
  have hw : ∀ (w : Nat) (z : Int), w ≤ 3 → w ≠ 0 → b = nI w → ∀ hi : Int32, hi.toInt = z → wp_X8_in c 0 hi M (fun r7 M7 => wp_X8_change_b61 K a b c r7 M7) := fun w z h3 h0 e hi ez =>
    w8 0 z (by decide) ez (fun _ _ => hblk 1 (fun h => absurd h (by decide)) (fun _ => ⟨w, h3, e, fun h => absurd h h0⟩)) (fun _ => hblk 0 (fun _ h => h0 ((nI_eq (a := w) (b := 0) (by omega) (by omega)).mp (by rw [← e]; exact h.1))) (fun h => absurd rfl h))
  unfold wp_X8_change
  refine ⟨fun b0 => ⟨fun b1 => ⟨fun b2 => ⟨fun b3 => ?_, fun b3 => ?_⟩, fun b2 => hw 2 1 (by omega) (by omega) b2 _ (by decide)⟩, fun b1 => hw 1 99 (by omega) (by omega) b1 _ (by decide)⟩, fun b0 => ?_⟩
  · exact hblk 0 (fun _ h => b0 h.1) (fun h => absurd rfl h)
  · exact w8 0 999 (by decide) (by decide) (fun _ _ => b1a (hblk 1 (fun h => absurd h (by decide)) (fun _ => ⟨3, by omega, b3, fun h => by omega⟩))) (fun _ => b0a (hblk 0 (fun _ h => b0 h.1) (fun h => absurd rfl h)))
  · unfold wp_X8_isArea
    exact w8 0 9 (by decide) (by decide) (fun g1 g2 => ⟨Or.inr rfl, hblk 1 (fun h => absurd h (by decide)) (fun _ => ⟨0, by omega, b0, fun _ => ⟨g1, g2⟩⟩)⟩) (fun g => ⟨Or.inl rfl, hblk 0 (fun _ h => g h.2) (fun h => absurd rfl h)⟩)
theorem m_as {a b : Int32} (hR : RO n (M 80)) (hK : ∀ q : Nat, q < n → KindOK (M 80 (11 + 7 * q))) (hg : ∀ j k c : Nat, j < n → a = nI j → k ≤ 6 → M 80 (11 + 7 * j) = nI k → c ≤ 6 → b = nI c → (isOf k c = true → K (M 80 (12 + 7 * j)) M) ∧ (isOf k c = false → ∀ M1, St SMx M M1 → K (-1000000005) M1))
    (hb : ¬ ((0 ≤ a.toInt ∧ a.toInt < n) ∧ 0 ≤ b.toInt ∧ b.toInt ≤ 6) → ∀ M1, St SMx M M1 → K (-1000000001) M1) : wp_X8_as a b M K := by
  have hn := hR.1
  unfold wp_X8_as
  refine q8z hR.1 hR.2.1 (fun j hj ej => ?_) (fun g => e8 1 (by decide) (by decide) (hb (fun h => g h.1) _ (St.rf.up rfl)))
  subst ej
  refine w8n 0 6 (by decide) (by decide) (fun g1 g2 => ?_) (fun g => e8 1 (by decide) (by decide) (hb (fun h => g h.2) _ (St.rf.up rfl)))
  obtain ⟨c, hc, rfl⟩ := nat_of (x := b) 6 g1 g2 (by decide)
  obtain ⟨k, hk, ek⟩ := hK j hj
  obtain ⟨hy, hno⟩ := hg j k c hj rfl hk ek hc rfl
  refine m_its 0 (by omega) ?_
  rw [show 11 + 7 * j + 0 = 11 + 7 * j by omega, ek]
  have yes : isOf k c = true → wp_X8_its (nI j) 1 M (fun r N => K r N) := fun h => m_its 1 (by omega) (by rw [show 11 + 7 * j + 1 = 12 + 7 * j by omega]; exact hy h)
  have no : isOf k c = false → wp_X8_errs (-1000000005) M (fun r N => K r N) := fun h => e8 5 (by decide) (by decide) (hno h _ (St.rf.up rfl))
  -- a round at the KIND f
  have hit : ∀ m f, f ≤ 6 → (f = c → isOf k c = true) → (f ≠ c → wp_X8_above (nI f) M (fun r3 M3 => wp_X8_as_L32 K (nI j) (nI c) m r3 M3)) → wp_X8_as_L32 K (nI j) (nI c) (m + 1) (nI f) M := by
    intro m f hf h1 h2
    show wp_X8_as_l32 K (nI j) (nI c) (wp_X8_as_L32 K (nI j) (nI c) m) (nI f) M
    unfold wp_X8_as_l32
    refine ⟨fun q => absurd q (nI_pos (by omega)), fun _ => pk_eq f c (fun e => ⟨fun _ => yes (h1 e), fun q => absurd (nI_pos' (by omega)) q⟩) h2⟩
  have hend : ∀ m, isOf k c = false → wp_X8_as_L32 K (nI j) (nI c) (m + 1) (-1) M := by
    intro m h
    show wp_X8_as_l32 K (nI j) (nI c) (wp_X8_as_L32 K (nI j) (nI c) m) (-1) M
    unfold wp_X8_as_l32
    exact ⟨fun _ => ⟨fun q => absurd q (by decide), fun _ => no h⟩, fun q => absurd (by decide) q⟩
  have h0 : ∀ m, (c ≠ 0 → isOf k c = false) → wp_X8_as_L32 K (nI j) (nI c) (m + 2) (nI 0) M := by
    intro m h
    refine hit _ 0 (by omega) (fun e => by subst e; simp [isOf]) (fun e => ?_)
    unfold wp_X8_above
    exact ⟨fun q => absurd rfl q, fun _ => hend _ (h (Ne.symm e))⟩
  -- KINDS 1, 2, 3
  have h3 : ∀ m f, 1 ≤ f → f ≤ 3 → (f = c → isOf k c = true) → (c ≠ f → c ≠ 0 → isOf k c = false) → wp_X8_as_L32 K (nI j) (nI c) (m + 3) (nI f) M := by
    intro m f hf1 hf3 h1 h2
    refine hit _ f (by omega) h1 (fun e => ?_)
    unfold wp_X8_above
    refine ⟨fun _ => ⟨fun _ => h0 _ (h2 (Ne.symm e)), fun q => absurd (nI_le (a := f) (b := 3) hf3 (by omega)) q⟩, fun q => absurd q (nI_ne0 (by omega) (by omega))⟩
  refine ⟨4, ?_⟩
  rcases (by omega : k = 0 ∨ (1 ≤ k ∧ k ≤ 3) ∨ (4 ≤ k ∧ k ≤ 6)) with rfl | ⟨k1, k3⟩ | ⟨k4, k6⟩
  · exact h0 2 (fun e => by simp [isOf, above, e])
  · refine h3 1 k k1 k3 (fun e => by subst e; simp [isOf]) (fun e1 e0 => ?_)
    have ha : above k = 0 := by unfold above; rw [if_neg (by omega), if_neg (by omega), if_neg (by omega)]
    simp [isOf, ha, e1, e0]
  · have ha : above k = k - 3 := by
      unfold above
      rcases (by omega : k = 4 ∨ k = 5 ∨ k = 6) with rfl | rfl | rfl <;> rfl
    refine hit 3 k k6 (fun e => by subst e; simp [isOf]) (fun e => ?_)
    unfold wp_X8_above
    refine ⟨fun _ => ⟨fun q => absurd q (nI_ge (a := 3) (b := k) (by omega) (by omega)), fun _ => ?_⟩, fun q => absurd q (nI_ne0 (by omega) (by omega))⟩
    rw [show (3 : Int32) = nI 3 from rfl, pk_sub (by omega)]
    refine h3 0 (k - 3) (by omega) (by omega) (fun e2 => by rw [← ha] at e2; simp [isOf, e2]) (fun e1 e0 => ?_)
    rw [← ha] at e1
    simp [isOf, Ne.symm e, e1, e0]
/-- the model's trace is L -/
def VM (o : Nat) (nn mm : Int32) (L : List Int32) (M0 M : Mem) : Prop := St (fun b => b == 79 || b == 91) M0 M ∧ M 79 20 = nI L.length ∧ M 79 21 = nI o ∧ M 79 22 = nn ∧ M 79 23 = mm ∧ (∀ k, k < L.length → M 91 k = L.getD k 0) ∧ M 79 3 = M0 79 3 ∧ M 79 4 = M0 79 4
end MO
section VY
variable {o : Nat} {nn mm : Int32} {L : List Int32} {M0 M : Mem}
theorem y_ran {b : Int32} {K : Mem → Prop} (h : VM o nn mm L M0 M) (hL : L.length + 1 ≤ 40) (hk : ∀ M1, VM o nn mm (L ++ [b]) M0 M1 → K M1) : wp_X8_ran b M K := by
  obtain ⟨h1, h2, h3, h4, h5, h6, h7, h8⟩ := h
  unfold wp_X8_ran
  rw [h2]
  refine pk_le 40 L.length (fun q => by omega) (fun q => ⟨vp_in_nI (by omega) (by decide), ?_⟩)
  rw [nI_clamp (by omega), up_cell (by decide), h2, nI_1]
  have hs : ∀ k, k ≠ 20 → up (up M 91 L.length b) 79 20 (nI (L.length + 1)) 79 k = M 79 k := fun k hk => by rw [up_slot _ hk, up_cell (by decide)]
  refine hk _ ⟨(h1.up rfl).up rfl, by rw [up_same, List.length_append]; rfl, by rw [hs _ (by decide)]; exact h3, by rw [hs _ (by decide)]; exact h4, by rw [hs _ (by decide)]; exact h5, fun k hk => ?_, by rw [hs _ (by decide)]; exact h7, by rw [hs _ (by decide)]; exact h8⟩
  rw [up_cell (by decide)]
  simp only [List.length_append, List.length_cons, List.length_nil] at hk
  rcases Nat.lt_or_ge k L.length with g | g
  · rw [up_slot _ (by omega), h6 k g, List.getD_eq_getElem?_getD, List.getD_eq_getElem?_getD, List.getElem?_append_left g]
  · have : k = L.length := by omega
    subst this
    rw [up_same]; simp
theorem above_0 {A : Int32 → Mem → Prop} {f : Nat} (h1 : 1 ≤ f) (h3 : f ≤ 3) (h : A 0 M) : wp_X8_above (nI f) M A := by
  unfold wp_X8_above
  exact ⟨fun _ => ⟨fun _ => h, fun q => absurd (nI_le (a := f) (b := 3) h3 (by omega)) q⟩, fun q => absurd q (nI_ne0 (by omega) (by omega))⟩
theorem above_3 {A : Int32 → Mem → Prop} {f : Nat} (h4 : 4 ≤ f) (h6 : f ≤ 6) (h : A (nI (f - 3)) M) : wp_X8_above (nI f) M A := by
  unfold wp_X8_above
  refine ⟨fun _ => ⟨fun q => absurd q (nI_ge (a := 3) (b := f) (by omega) (by omega)), fun _ => ?_⟩, fun q => absurd q (nI_ne0 (by omega) (by omega))⟩
  rw [show (3 : Int32) = nI 3 from rfl, pk_sub (by omega)]; exact h
theorem nI_neq {a b : Nat} (ha : a < 2 ^ 30) (hb : b < 2 ^ 30) (h : a ≠ b) : ¬ nI a = nI b := fun e => h ((nI_eq (by omega) (by omega)).mp e)
theorem y_g0 {n : Nat} {x : Int32} {K : Int32 → Mem → Prop} (h : VM o nn mm L M0 M) (hL : L.length + 1 ≤ 40) (hk : ∀ M1, VM o nn mm (L ++ [10]) M0 M1 → K (x + nn) M1) : wpG_X8_grindsIn (n + 1) 0 x M K := by
  show wpb_X8_grindsIn (wpG_X8_grindsIn n) 0 x M K
  unfold wpb_X8_grindsIn
  refine ⟨fun e => absurd rfl e, fun _ => y_ran h hL (fun M1 h1 => ?_)⟩
  rw [h1.2.2.2.1]; exact hk _ h1
theorem y_g1 {n : Nat} {x : Int32} {K : Int32 → Mem → Prop} (h : VM o nn mm L M0 M) (hL : L.length + 2 ≤ 40) (hk : ∀ M1, VM o nn mm (L ++ [20, 10]) M0 M1 → K ((x + nn) * 3) M1) : wpG_X8_grindsIn (n + 2) 1 x M K := by
  show wpb_X8_grindsIn (wpG_X8_grindsIn (n + 1)) 1 x M K
  unfold wpb_X8_grindsIn
  exact ⟨fun _ => ⟨fun e => absurd rfl e, fun _ => y_ran h (by omega) (fun M1 h1 => y_g0 h1 (by simp; omega) (fun M2 h2 => hk M2 (by simpa using h2)))⟩, fun e => absurd e (by decide)⟩
theorem y_gu {n f : Nat} {x : Int32} {K : Int32 → Mem → Prop} (h2 : 2 ≤ f) (h6 : f ≤ 6) (h : f ≤ 3 → wpG_X8_grindsIn n 0 x M K) (h' : 4 ≤ f → wpG_X8_grindsIn n (nI (f - 3)) x M K) : wpG_X8_grindsIn (n + 1) (nI f) x M K := by
  show wpb_X8_grindsIn (wpG_X8_grindsIn n) (nI f) x M K
  unfold wpb_X8_grindsIn
  refine ⟨fun _ => ⟨fun _ => ?_, fun e => absurd e (nI_neq (a := f) (b := 1) (by omega) (by omega) (by omega))⟩, fun e => absurd e (nI_ne0 (by omega) (by omega))⟩
  rcases Nat.lt_or_ge f 4 with g | g
  · exact above_0 (by omega) (by omega) (h (by omega))
  · exact above_3 g h6 (h' g)
theorem y_g {k : Nat} {x : Int32} {K : Int32 → Mem → Prop} (hk6 : k ≤ 6) (h : VM o nn mm L M0 M) (hL : L.length + 2 ≤ 40) (hk : ∀ M1, VM o nn mm (L ++ gL k) M0 M1 → K (gR nn k x) M1) : wp_X8_grindsIn 8 (nI k) x M K := by
  have z0 : ∀ n, k ≠ 1 → k ≠ 4 → wpG_X8_grindsIn (n + 1) 0 x M K := fun n e1 e4 => y_g0 h (by omega) (fun M1 h1 => by
    have := hk M1 (by rw [gL, if_neg (by omega)]; exact h1)
    rw [gR, if_neg (by omega)] at this; exact this)
  have z1 : ∀ n, (k = 1 ∨ k = 4) → wpG_X8_grindsIn (n + 2) 1 x M K := fun n e => y_g1 h (by omega) (fun M1 h1 => by
    have := hk M1 (by rw [gL, if_pos e]; exact h1)
    rw [gR, if_pos e] at this; exact this)
  rcases (by omega : k = 0 ∨ k = 1 ∨ k = 2 ∨ k = 3 ∨ k = 4 ∨ k = 5 ∨ k = 6) with rfl | rfl | rfl | rfl | rfl | rfl | rfl
  · exact z0 7 (by omega) (by omega)
  · exact z1 6 (by omega)
  · exact y_gu (n := 7) (by omega) (by omega) (fun _ => z0 6 (by omega) (by omega)) (fun e => by omega)
  · exact y_gu (n := 7) (by omega) (by omega) (fun _ => z0 6 (by omega) (by omega)) (fun e => by omega)
  · exact y_gu (n := 7) (by omega) (by omega) (fun e => by omega) (fun _ => z1 5 (by omega))
  · exact y_gu (n := 7) (by omega) (by omega) (fun e => by omega) (fun _ => y_gu (n := 6) (f := 2) (by omega) (by omega) (fun _ => z0 5 (by omega) (by omega)) (fun e => by omega))
  · exact y_gu (n := 7) (by omega) (by omega) (fun e => by omega) (fun _ => y_gu (n := 6) (f := 3) (by omega) (by omega) (fun _ => z0 5 (by omega) (by omega)) (fun e => by omega))
theorem y_s0 {n : Nat} {x : Int32} {K : Int32 → Mem → Prop} (h : VM o nn mm L M0 M) (hL : L.length + 1 ≤ 40) (hk : ∀ M1, VM o nn mm (L ++ [12]) M0 M1 → K (x - mm) M1) : wpG_X8_sparksIn (n + 1) 0 x M K := by
  show wpb_X8_sparksIn (wpG_X8_sparksIn n) 0 x M K
  unfold wpb_X8_sparksIn
  refine ⟨fun e => absurd rfl e, fun _ => y_ran h hL (fun M1 h1 => ?_)⟩
  rw [h1.2.2.2.2.1]; exact hk _ h1
theorem y_s3 {n : Nat} {x : Int32} {K : Int32 → Mem → Prop} (h : VM o nn mm L M0 M) (hL : L.length + 2 ≤ 40) (hk : ∀ M1, VM o nn mm (L ++ [40, 12]) M0 M1 → K (-(x - mm)) M1) : wpG_X8_sparksIn (n + 2) 3 x M K := by
  show wpb_X8_sparksIn (wpG_X8_sparksIn (n + 1)) 3 x M K
  unfold wpb_X8_sparksIn
  exact ⟨fun _ => ⟨fun e => absurd rfl e, fun _ => y_ran h (by omega) (fun M1 h1 => y_s0 h1 (by simp; omega) (fun M2 h2 => hk M2 (by simpa using h2)))⟩, fun e => absurd e (by decide)⟩
theorem y_su {n f : Nat} {x : Int32} {K : Int32 → Mem → Prop} (h1 : 1 ≤ f) (h5 : f ≤ 5) (h3 : f ≠ 3) (h : f ≤ 3 → wpG_X8_sparksIn n 0 x M K) (h' : 4 ≤ f → wpG_X8_sparksIn n (nI (f - 3)) x M K) : wpG_X8_sparksIn (n + 1) (nI f) x M K := by
  show wpb_X8_sparksIn (wpG_X8_sparksIn n) (nI f) x M K
  unfold wpb_X8_sparksIn
  refine ⟨fun _ => ⟨fun _ => ⟨fun _ => ?_, fun e => absurd e (nI_neq (a := f) (b := 6) (by omega) (by omega) (by omega))⟩, fun e => absurd e (nI_neq (a := f) (b := 3) (by omega) (by omega) (by omega))⟩, fun e => absurd e (nI_ne0 (by omega) (by omega))⟩
  rcases Nat.lt_or_ge f 4 with g | g
  · exact above_0 (by omega) (by omega) (h (by omega))
  · exact above_3 g (by omega) (h' g)
theorem y_s {k : Nat} {x : Int32} {K : Int32 → Mem → Prop} (hk6 : k ≤ 6) (h : VM o nn mm L M0 M) (hL : L.length + 3 ≤ 40) (hk : ∀ M1, VM o nn mm (L ++ sL k) M0 M1 → K (sR nn mm k x) M1) : wp_X8_sparksIn 8 (nI k) x M K := by
  have z0 : ∀ n, k ≠ 3 → k ≠ 6 → wpG_X8_sparksIn (n + 1) 0 x M K := fun n e3 e6 => y_s0 h (by omega) (fun M1 h1 => by
    have := hk M1 (by rw [sL, if_neg e3, if_neg e6]; exact h1)
    rw [sR, if_neg e3, if_neg e6] at this; exact this)
  rcases (by omega : k = 0 ∨ k = 1 ∨ k = 2 ∨ k = 3 ∨ k = 4 ∨ k = 5 ∨ k = 6) with rfl | rfl | rfl | rfl | rfl | rfl | rfl
  · exact z0 7 (by omega) (by omega)
  · exact y_su (n := 7) (by omega) (by omega) (by omega) (fun _ => z0 6 (by omega) (by omega)) (fun e => by omega)
  · exact y_su (n := 7) (by omega) (by omega) (by omega) (fun _ => z0 6 (by omega) (by omega)) (fun e => by omega)
  · exact y_s3 (n := 6) h (by omega) hk
  · exact y_su (n := 7) (by omega) (by omega) (by omega) (fun e => by omega) (fun _ => y_su (n := 6) (f := 1) (by omega) (by omega) (by omega) (fun _ => z0 5 (by omega) (by omega)) (fun e => by omega))
  · exact y_su (n := 7) (by omega) (by omega) (by omega) (fun e => by omega) (fun _ => y_su (n := 6) (f := 2) (by omega) (by omega) (by omega) (fun _ => z0 5 (by omega) (by omega)) (fun e => by omega))
  · show wpb_X8_sparksIn (wpG_X8_sparksIn 7) (nI 6) x M K
    unfold wpb_X8_sparksIn
    refine ⟨fun _ => ⟨fun _ => ⟨fun e => absurd rfl e, fun _ => y_ran h (by omega) (fun M1 h1 => y_s3 (n := 5) h1 (by simp; omega) (fun M2 h2 => ?_))⟩, fun e => absurd e (by decide)⟩, fun e => absurd e (by decide)⟩
    rw [h2.2.2.2.1]
    exact hk M2 (by simpa [sL] using h2)
theorem y_c0 {n : Nat} {x : Int32} {K : Int32 → Mem → Prop} (ho : o ≤ 6) (h : VM o nn mm L M0 M) (hL : L.length + 3 ≤ 40) (hk : ∀ M1, VM o nn mm (L ++ c0L o) M0 M1 → K (c0R nn o x) M1) : wpG_X8_cutsIn (n + 1) 0 x M K := by
  show wpb_X8_cutsIn (wpG_X8_cutsIn n) 0 x M K
  unfold wpb_X8_cutsIn
  refine ⟨fun e => absurd rfl e, fun _ => y_ran h (by omega) (fun M1 h1 => ?_)⟩
  rw [h1.2.2.1]
  exact y_g ho h1 (by simp; omega) (fun M2 h2 => hk M2 (by simpa [c0L] using h2))
theorem y_c2 {n : Nat} {x : Int32} {K : Int32 → Mem → Prop} (ho : o ≤ 6) (h : VM o nn mm L M0 M) (hL : L.length + 7 ≤ 40) (hk : ∀ M1, VM o nn mm (L ++ c2L o) M0 M1 → K (c2R nn mm o x) M1) : wpG_X8_cutsIn (n + 2) 2 x M K := by
  show wpb_X8_cutsIn (wpG_X8_cutsIn (n + 1)) 2 x M K
  unfold wpb_X8_cutsIn
  refine ⟨fun _ => ⟨fun e => absurd rfl e, fun _ => y_ran h (by omega) (fun M1 h1 => y_c0 ho h1 (by simp; omega) (fun M2 h2 => ?_))⟩, fun e => absurd e (by decide)⟩
  rw [h2.2.2.1]
  have := c0L_len o
  exact y_s ho h2 (by simp; omega) (fun M3 h3 => hk M3 (by simpa [c2L] using h3))
theorem y_cu {n f : Nat} {x : Int32} {K : Int32 → Mem → Prop} (h1 : 1 ≤ f) (h6 : f ≤ 6) (h2 : f ≠ 2) (h5 : f ≠ 5) (h : f ≤ 3 → wpG_X8_cutsIn n 0 x M K) (h' : 4 ≤ f → wpG_X8_cutsIn n (nI (f - 3)) x M K) : wpG_X8_cutsIn (n + 1) (nI f) x M K := by
  show wpb_X8_cutsIn (wpG_X8_cutsIn n) (nI f) x M K
  unfold wpb_X8_cutsIn
  refine ⟨fun _ => ⟨fun _ => ⟨fun _ => ?_, fun e => absurd e (nI_neq (a := f) (b := 5) (by omega) (by omega) (by omega))⟩, fun e => absurd e (nI_neq (a := f) (b := 2) (by omega) (by omega) (by omega))⟩, fun e => absurd e (nI_ne0 (by omega) (by omega))⟩
  rcases Nat.lt_or_ge f 4 with g | g
  · exact above_0 (by omega) (by omega) (h (by omega))
  · exact above_3 g (by omega) (h' g)
theorem y_c {f : Nat} {x : Int32} {K : Int32 → Mem → Prop} (ho : o ≤ 6) (hf : f ≤ 6) (h : VM o nn mm L M0 M) (hL : L.length + 8 ≤ 40) (hk : ∀ M1, VM o nn mm (L ++ cL o f) M0 M1 → K (cR nn mm o f x) M1) : wp_X8_cutsIn 8 (nI f) x M K := by
  have z0 : ∀ n, f ≠ 2 → f ≠ 5 → wpG_X8_cutsIn (n + 1) 0 x M K := fun n e2 e5 => y_c0 ho h (by omega) (fun M1 h1 => by
    have := hk M1 (by rw [cL, if_neg e2, if_neg e5]; exact h1)
    rw [cR, if_neg e2, if_neg e5] at this; exact this)
  rcases (by omega : f = 0 ∨ f = 1 ∨ f = 2 ∨ f = 3 ∨ f = 4 ∨ f = 5 ∨ f = 6) with rfl | rfl | rfl | rfl | rfl | rfl | rfl
  · exact z0 7 (by omega) (by omega)
  · exact y_cu (n := 7) (by omega) (by omega) (by omega) (by omega) (fun _ => z0 6 (by omega) (by omega)) (fun e => by omega)
  · exact y_c2 (n := 6) ho h (by omega) hk
  · exact y_cu (n := 7) (by omega) (by omega) (by omega) (by omega) (fun _ => z0 6 (by omega) (by omega)) (fun e => by omega)
  · exact y_cu (n := 7) (by omega) (by omega) (by omega) (by omega) (fun e => by omega) (fun _ => y_cu (n := 6) (f := 1) (by omega) (by omega) (by omega) (by omega) (fun _ => z0 5 (by omega) (by omega)) (fun e => by omega))
  · show wpb_X8_cutsIn (wpG_X8_cutsIn 7) (nI 5) x M K
    unfold wpb_X8_cutsIn
    exact ⟨fun _ => ⟨fun _ => ⟨fun e => absurd rfl e, fun _ => y_ran h (by omega) (fun M1 h1 => y_c2 (n := 5) ho h1 (by simp; omega) (fun M2 h2 => hk M2 (by simpa [cL] using h2)))⟩, fun e => absurd e (by decide)⟩, fun e => absurd e (by decide)⟩
  · exact y_cu (n := 7) (by omega) (by omega) (by omega) (by omega) (fun e => by omega) (fun _ => y_cu (n := 6) (f := 3) (by omega) (by omega) (by omega) (by omega) (fun _ => z0 5 (by omega) (by omega)) (fun e => by omega))
theorem y_t0 {n : Nat} {x : Int32} {K : Int32 → Mem → Prop} (ho : o ≤ 6) (h : VM o nn mm L M0 M) (hL : L.length + 12 ≤ 40) (hk : ∀ M1, VM o nn mm (L ++ t0L o) M0 M1 → K (t0R nn mm o x) M1) : wpG_X8_tellsIn (n + 1) 0 x M K := by
  show wpb_X8_tellsIn (wpG_X8_tellsIn n) 0 x M K
  unfold wpb_X8_tellsIn
  refine ⟨fun e => absurd rfl e, fun _ => y_ran h (by omega) (fun M1 h1 => ?_)⟩
  rw [h1.2.2.1]
  refine y_c ho ho h1 (by simp; omega) (fun M2 h2 => ?_)
  rw [h2.2.2.1]
  have := cL_len o o
  exact y_s ho h2 (by simp; omega) (fun M3 h3 => hk M3 (by simpa [t0L] using h3))
theorem y_tu {n f : Nat} {x : Int32} {K : Int32 → Mem → Prop} (h1 : 1 ≤ f) (h5 : f ≤ 5) (h4 : f ≠ 4) (h : f ≤ 3 → wpG_X8_tellsIn n 0 x M K) (h' : 4 ≤ f → wpG_X8_tellsIn n (nI (f - 3)) x M K) : wpG_X8_tellsIn (n + 1) (nI f) x M K := by
  show wpb_X8_tellsIn (wpG_X8_tellsIn n) (nI f) x M K
  unfold wpb_X8_tellsIn
  refine ⟨fun _ => ⟨fun _ => ⟨fun _ => ?_, fun e => absurd e (nI_neq (a := f) (b := 6) (by omega) (by omega) (by omega))⟩, fun e => absurd e (nI_neq (a := f) (b := 4) (by omega) (by omega) (by omega))⟩, fun e => absurd e (nI_ne0 (by omega) (by omega))⟩
  rcases Nat.lt_or_ge f 4 with g | g
  · exact above_0 (by omega) (by omega) (h (by omega))
  · exact above_3 g (by omega) (h' g)
theorem y_t {f : Nat} {x : Int32} {K : Int32 → Mem → Prop} (ho : o ≤ 6) (hf : f ≤ 6) (h : VM o nn mm L M0 M) (hL : L.length + 24 ≤ 40) (hk : ∀ M1, VM o nn mm (L ++ tL o f) M0 M1 → K (tR nn mm o f x) M1) : wp_X8_tellsIn 8 (nI f) x M K := by
  have l1 := t0L_len o
  have l2 := cL_len o o
  have z0 : ∀ n, f ≠ 4 → f ≠ 6 → wpG_X8_tellsIn (n + 1) 0 x M K := fun n e4 e6 => y_t0 ho h (by omega) (fun M1 h1 => by
    have := hk M1 (by rw [tL, if_neg e4, if_neg e6]; exact h1)
    rw [tR, if_neg e4, if_neg e6] at this; exact this)
  rcases (by omega : f = 0 ∨ f = 1 ∨ f = 2 ∨ f = 3 ∨ f = 4 ∨ f = 5 ∨ f = 6) with rfl | rfl | rfl | rfl | rfl | rfl | rfl
  · exact z0 7 (by omega) (by omega)
  · exact y_tu (n := 7) (by omega) (by omega) (by omega) (fun _ => z0 6 (by omega) (by omega)) (fun e => by omega)
  · exact y_tu (n := 7) (by omega) (by omega) (by omega) (fun _ => z0 6 (by omega) (by omega)) (fun e => by omega)
  · exact y_tu (n := 7) (by omega) (by omega) (by omega) (fun _ => z0 6 (by omega) (by omega)) (fun e => by omega)
  · show wpb_X8_tellsIn (wpG_X8_tellsIn 7) (nI 4) x M K
    unfold wpb_X8_tellsIn
    refine ⟨fun _ => ⟨fun e => absurd rfl e, fun _ => y_ran h (by omega) (fun M1 h1 => y_tu (n := 6) (f := 1) (by omega) (by omega) (by omega) (fun _ => y_t0 (n := 5) ho h1 (by simp; omega) (fun M2 h2 => ?_)) (fun e => by omega))⟩, fun e => absurd e (by decide)⟩
    rw [h2.2.2.1]
    exact y_g ho h2 (by simp; omega) (fun M3 h3 => hk M3 (by simpa [tL] using h3))
  · exact y_tu (n := 7) (by omega) (by omega) (by omega) (fun e => by omega) (fun _ => y_tu (n := 6) (f := 2) (by omega) (by omega) (by omega) (fun _ => z0 5 (by omega) (by omega)) (fun e => by omega))
  · show wpb_X8_tellsIn (wpG_X8_tellsIn 7) (nI 6) x M K
    unfold wpb_X8_tellsIn
    refine ⟨fun _ => ⟨fun _ => ⟨fun e => absurd rfl e, fun _ => y_ran h (by omega) (fun M1 h1 => ?_)⟩, fun e => absurd e (by decide)⟩, fun e => absurd e (by decide)⟩
    rw [h1.2.2.1]
    exact y_c ho ho h1 (by simp; omega) (fun M2 h2 => y_tu (n := 6) (f := 3) (by omega) (by omega) (by omega) (fun _ => y_t0 (n := 5) ho h2 (by simp; omega) (fun M3 h3 => hk M3 (by simpa [tL] using h3))) (fun e => by omega))
end VY
theorem m_voice {n : Nat} {M : Mem} {K : Int32 → Mem → Prop} {a b x : Int32} (hR : RO n (M 80)) (hK : ∀ q : Nat, q < n → KindOK (M 80 (11 + 7 * q)))
    (hg : ∀ j k c : Nat, j < n → a = nI j → k ≤ 6 → M 80 (11 + 7 * j) = nI k → c ≤ 3 → b = nI c → ∀ M1, VM k (nI j) (M 80 (12 + 7 * j)) (vL k c) M M1 → K (vR (nI j) (M 80 (12 + 7 * j)) k c x) M1)
    (hb : ¬ ((0 ≤ a.toInt ∧ a.toInt < n) ∧ 0 ≤ b.toInt ∧ b.toInt ≤ 3) → ∀ M1, St SMx M M1 → K (-1000000001) M1) : wp_X8_voice a b x M K := by
  have hn := hR.1
  unfold wp_X8_voice
  refine q8z hR.1 hR.2.1 (fun j hj ej => ?_) (fun g => e8 1 (by decide) (by decide) (hb (fun h => g h.1) _ (St.rf.up rfl)))
  subst ej
  refine w8n 0 3 (by decide) (by decide) (fun g1 g2 => ?_) (fun g => e8 1 (by decide) (by decide) (hb (fun h => g h.2) _ (St.rf.up rfl)))
  obtain ⟨c, hc, rfl⟩ := nat_of (x := b) 3 g1 g2 (by decide)
  obtain ⟨k, hk, ek⟩ := hK j hj
  have hg := hg j k c hj rfl hk ek hc rfl
  refine m_its 0 (by omega) (m_its 1 (by omega) ?_)
  have e0 : (up M 79 20 0) 80 (11 + 7 * j + 0) = nI k := by rw [up_cell (by decide)]; exact ek
  have e1 : (up (up (up M 79 20 0) 79 21 (nI k)) 79 22 (nI j)) 80 (11 + 7 * j + 1) = M 80 (12 + 7 * j) := by rw [up_cell (by decide), up_cell (by decide), up_cell (by decide), show 11 + 7 * j + 1 = 12 + 7 * j by omega]
  rw [e0, e1]
  have hv : VM k (nI j) (M 80 (12 + 7 * j)) [] M (up (up (up (up M 79 20 0) 79 21 (nI k)) 79 22 (nI j)) 79 23 (M 80 (12 + 7 * j))) := ⟨(((St.rf.up rfl).up rfl).up rfl).up rfl, by simp [up]; rfl, by simp [up], by simp [up], by simp [up], fun k hk => by simp at hk, by simp [up], by simp [up]⟩
  have e2 : (up (up (up (up M 79 20 0) 79 21 (nI k)) 79 22 (nI j)) 79 23 (M 80 (12 + 7 * j))) 79 21 = nI k := hv.2.2.1
  rw [e2]
  generalize (up (up (up (up M 79 20 0) 79 21 (nI k)) 79 22 (nI j)) 79 23 (M 80 (12 + 7 * j))) = M' at hv e2 ⊢
  refine pk_eq c 0 (fun e => ?_) (fun e0 => pk_eq c 1 (fun e => ?_) (fun e1 => pk_eq c 2 (fun e => ?_) (fun e2 => ?_)))
  · subst e; exact y_g hk hv (by simp) (fun M1 h1 => hg M1 (by simpa [vL] using h1))
  · subst e; exact y_c hk hk hv (by simp) (fun M1 h1 => hg M1 (by simpa [vL] using h1))
  · subst e; exact y_s hk hv (by simp) (fun M1 h1 => hg M1 (by simpa [vL] using h1))
  · refine y_t hk hk hv (by simp) (fun M1 h1 => ?_)
    have := hg M1 (by rw [vL, if_neg e0, if_neg e1, if_neg e2]; simpa using h1)
    rw [vR, if_neg e0, if_neg e1, if_neg e2] at this; exact this
theorem m_trace {z : Nat} {M : Mem} {K : Int32 → Mem → Prop} {a : Int32} (hz : z ≤ 40) (ez : M 79 20 = nI z) (hg : ∀ j : Nat, j < z → a = nI j → K (M 91 j) M) (hb : ¬ (0 ≤ a.toInt ∧ a.toInt < z) → ∀ M1, St SMx M M1 → K (-1000000002) M1) : wp_X8_trace a M K := by
  unfold wp_X8_trace
  rw [ez]
  refine w8z 0 ((z : Int) - 1) (by decide) (nI_m1 (by omega)) (fun g1 g2 => ?_) (fun g => e8 2 (by decide) (by decide) (hb (by omega) _ (St.rf.up rfl)))
  obtain ⟨j, hj, rfl⟩ := nat_of (x := a) 39 g1 (by omega) (by decide)
  rw [nI_toInt (by omega)] at g2
  rw [nI_clamp (by omega)]
  exact ⟨vp_in_nI (by omega) (by decide), hg j (by omega) rfl⟩
