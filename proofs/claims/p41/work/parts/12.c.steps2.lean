theorem kind_km {km : Int32} (h0 : 0 ≤ km.toInt) (h1 : km.toInt ≤ 69) : KindOK (km / 10) := by
  obtain ⟨j, hj, rfl⟩ := nat_of (x := km) 69 h0 h1 (by decide)
  refine ⟨j / 10, by omega, ?_⟩
  rw [show (10 : Int32) = nI 10 from rfl, pk_div (by omega) (by omega) (by omega)]
theorem RO.k {n m : Nat} {f f1 : Nat → Int32} (h : RO n f) (hm : m ≤ 9) (h2 : f1 2 = nI m) (hh : ∀ q : Nat, q < m → HangOK (f1 (15 + 7 * q))) (hk : ∀ k, k = 5 ∨ k = 6 ∨ 144 ≤ k → f1 k = f k) : RO m f1 :=
  ⟨hm, h2, hh, h.2.2.2.1.same (hk _ (by omega)) (fun j _ => hk _ (by omega)), h.2.2.2.2.same (hk _ (by omega)) (fun j _ => hk _ (by omega))⟩
section ZU
variable {i : Nat} {M : Mem}
theorem z_quarrel {km a e o : Int32} (hI : Inv i M) : wp_X7_quarrel km a e o M (fun r1 M1 => wp_X8_quarrel km a e o M1 (fun r2 M2 => r1 = r2 ∧ Inv (i + 1) M2)) := by
  obtain ⟨n, b, t, hN⟩ := hI.2.1
  have hn := hN.1.1
  refine p_quarrel hN.1.cn (fun hq h9 M1 c1 c2 c3 c4 c5 c6 c7 => ?_) (fun g M1 h1 => ?_) (fun hq h9 M1 h1 => ?_)
  · have em : ∀ c, 79 ≤ c → M1 c = M c := fun c hc => c1 c (by simp <;> omega)
    refine m_quarrel (by rw [em 80 (by omega)]; exact hN.2.1) (fun _ _ M2 d1 d2 d3 d4 d5 d6 d7 => ⟨rfl, ?_⟩) (fun g => absurd hq g) (fun _ g => by omega)
    have ex : ∀ c, c ≠ 80 → M2 c = M1 c := fun c hc => d1 c (by simp [hc])
    have e80 : M1 80 = M 80 := em 80 (by omega)
    have es : ∀ c, c ≠ 12 → c ≠ 14 + n → c ≠ 80 → M2 c = M c := fun c g1 g2 g3 => by rw [ex c g3]; exact c1 c (by simp [g1, g2])
    obtain ⟨w1, w2, w3, w4, w5, w6, w7, w8, w9⟩ := hN.1
    obtain ⟨q1, q2, q3, q4, q5⟩ := hN.2.2
    refine hI.rest (fun c hc => es c (by simp at hc; omega) (by simp at hc; omega) (by simp at hc; omega)) (by rw [es 79 (by omega) (by omega) (by omega)]) (by rw [es 79 (by omega) (by omega) (by omega)]) (by rw [es 79 (by omega) (by omega) (by omega)]) (n := n + 1) (b := b) (t := t) ⟨⟨by omega, w2, w3, ?_, ?_, ?_, fun q hq2 => ?_, ?_, ?_⟩, ?_, ?_, ?_, ?_, ?_, fun q hq2 => ?_⟩
    · rw [ex _ (by omega)]; exact c2
    · rw [es _ (by omega) (by omega) (by omega)]; exact w5
    · rw [es _ (by omega) (by omega) (by omega)]; exact w6
    · rcases Nat.lt_or_ge q n with g | g
      · rw [es _ (by omega) (by omega) (by omega)]; exact w7 q g
      · have : q = n := by omega
        subst this
        rw [ex _ (by omega), show 1 + 13 + q = 14 + q by omega, c7, c4]
        exact ⟨Or.inl rfl, kind_km hq.1.1 hq.1.2⟩
    · exact w8.keep (es _ (by omega) (by omega) (by omega)) (es _ (by omega) (by omega) (by omega)) (es _ (by omega) (by omega) (by omega)) (es _ (by omega) (by omega) (by omega))
    · exact w9.keep (es _ (by omega) (by omega) (by omega)) (es _ (by omega) (by omega) (by omega)) (es _ (by omega) (by omega) (by omega)) (es _ (by omega) (by omega) (by omega))
    · refine hN.2.1.k (by omega) d2 (fun q hq2 => ?_) (fun k hk => by rw [d3 k (by omega) (by omega), e80])
      rcases Nat.lt_or_ge q n with g | g
      · rw [d3 _ (by omega) (by omega), e80]; exact hN.2.1.2.2.1 q g
      · have : q = n := by omega
        subst this
        rw [d7]
        rcases Int.lt_or_le o.toInt 0 with g0 | g0
        · exact Or.inl (Int32.lt_iff_toInt_lt.mpr (by rw [show (0 : Int32).toInt = 0 by decide]; exact g0))
        · obtain ⟨j, hj, ej⟩ := nat_of (x := o) 8 g0 (by have := hq.2.2.2.2; omega) (by decide)
          exact Or.inr ⟨j, by omega, ej⟩
    · rw [ex _ (by omega), d3 _ (by omega) (by omega), e80]
      have : M1 (1 + 11) 6 = M (1 + 11) 6 := c3
      rw [this]; exact q1
    · rw [es _ (by omega) (by omega) (by omega), d3 _ (by omega) (by omega), e80]; exact q2
    · rw [es _ (by omega) (by omega) (by omega), d3 _ (by omega) (by omega), e80]; exact q3
    · rw [es _ (by omega) (by omega) (by omega), d3 _ (by omega) (by omega), e80]; exact q4
    · rcases Nat.lt_or_ge q n with g | g
      · rw [es _ (by omega) (by omega) (by omega), d3 _ (by omega) (by omega), d3 _ (by omega) (by omega), d3 _ (by omega) (by omega), e80]; exact q5 q g
      · have : q = n := by omega
        subst this
        rw [ex _ (by omega), show 1 + 13 + q = 14 + q by omega, c4, c5, c6, d4, d5, d6]
        exact ⟨rfl, rfl, rfl⟩
  · have em : M1 80 = M 80 := h1 80 rfl
    exact m_quarrel (by rw [em]; exact hN.2.1) (fun hq => absurd hq g) (fun _ M2 h2 => ⟨rfl, inv_th hI hN h1 h2⟩) (fun hq => absurd hq g)
  · have em : M1 80 = M 80 := h1 80 rfl
    exact m_quarrel (by rw [em]; exact hN.2.1) (fun _ g => by omega) (fun g => absurd hq g) (fun _ _ M2 h2 => ⟨rfl, inv_th hI hN h1 h2⟩)
/-- a one and its places of the row change alike in kind, m, area -/
theorem inv_one {n b t j : Nat} {M2 : Mem} (hI : Inv i M) (hN : NW n b t M) (hj : j < n) (hs : ∀ c, c ≠ 14 + j → c ≠ 80 → M2 c = M c) (h6 : M2 (14 + j) 6 = M (14 + j) 6) (hr : ∀ k, k ≠ 11 + 7 * j → k ≠ 12 + 7 * j → k ≠ 13 + 7 * j → M2 80 k = M 80 k) (hK : KindOK (M2 (14 + j) 0)) (e0 : M2 (14 + j) 0 = M2 80 (11 + 7 * j)) (e1 : M2 (14 + j) 1 = M2 80 (12 + 7 * j)) (e2 : M2 (14 + j) 2 = M2 80 (13 + 7 * j)) : Inv (i + 1) M2 := by
  obtain ⟨w1, w2, w3, w4, w5, w6, w7, w8, w9⟩ := hN.1
  obtain ⟨q1, q2, q3, q4, q5⟩ := hN.2.2
  refine hI.rest (fun c hc => hs c (by simp at hc; omega) (by simp at hc; omega)) (by rw [hs 79 (by omega) (by omega)]) (by rw [hs 79 (by omega) (by omega)]) (by rw [hs 79 (by omega) (by omega)]) (n := n) (b := b) (t := t) ⟨⟨w1, w2, w3, ?_, ?_, ?_, fun q hq => ?_, ?_, ?_⟩, ?_, ?_, ?_, ?_, ?_, fun q hq => ?_⟩
  · rw [hs _ (by omega) (by omega)]; exact w4
  · rw [hs _ (by omega) (by omega)]; exact w5
  · rw [hs _ (by omega) (by omega)]; exact w6
  · by_cases g : q = j
    · subst g
      refine ⟨?_, hK⟩
      have : M2 (1 + 13 + q) 6 = M (1 + 13 + q) 6 := by rw [show 1 + 13 + q = 14 + q by omega]; exact h6
      rw [this]; exact (w7 q hq).1
    · rw [hs _ (by omega) (by omega)]; exact w7 q hq
  · exact w8.keep (hs _ (by omega) (by omega)) (hs _ (by omega) (by omega)) (hs _ (by omega) (by omega)) (hs _ (by omega) (by omega))
  · exact w9.keep (hs _ (by omega) (by omega)) (hs _ (by omega) (by omega)) (hs _ (by omega) (by omega)) (hs _ (by omega) (by omega))
  · exact hN.2.1.k w1 (by rw [hr _ (by omega) (by omega) (by omega)]; exact hN.2.1.2.1) (fun q hq => by rw [hr _ (by omega) (by omega) (by omega)]; exact hN.2.1.2.2.1 q hq) (fun k hk => hr k (by omega) (by omega) (by omega))
  · rw [hs _ (by omega) (by omega), hr _ (by omega) (by omega) (by omega)]; exact q1
  · rw [hs _ (by omega) (by omega), hr _ (by omega) (by omega) (by omega)]; exact q2
  · rw [hs _ (by omega) (by omega), hr _ (by omega) (by omega) (by omega)]; exact q3
  · rw [hs _ (by omega) (by omega), hr _ (by omega) (by omega) (by omega)]; exact q4
  · by_cases g : q = j
    · subst g
      rw [show 1 + 13 + q = 14 + q by omega]; exact ⟨e0, e1, e2⟩
    · rw [hs _ (by omega) (by omega), hr _ (by omega) (by omega) (by omega), hr _ (by omega) (by omega) (by omega), hr _ (by omega) (by omega) (by omega)]; exact q5 q hq
theorem z_become {a km : Int32} (hI : Inv i M) : wp_X7_become a km M (fun r1 M1 => wp_X8_become a km M1 (fun r2 M2 => r1 = r2 ∧ Inv (i + 1) M2)) := by
  obtain ⟨n, b, t, hN⟩ := hI.2.1
  have hn := hN.1.1
  refine p_become hN.1.cn (fun j hj ej g1 g2 => ?_) (fun g M1 h1 => ?_)
  · have em : ∀ c, c ≠ 14 + j → (up (up M (14 + j) 0 (km / 10)) (14 + j) 1 (km - km / 10 * 10)) c = M c := fun c hc => by rw [up_o _ hc, up_o _ hc]
    refine m_become (by rw [em 80 (by omega)]; exact hN.2.1) (fun j' hj' ej' _ _ => ?_) (fun g => absurd ⟨by rw [ej, nI_toInt (by omega)]; omega, g1, g2⟩ g)
    have : j' = j := (nI_eq (by omega) (by omega)).mp (ej'.symm.trans ej)
    subst this
    obtain ⟨f0, f1, f2⟩ := hN.2.2.2.2.2.2 j' hj
    have f0 : M (14 + j') 0 = M 80 (11 + 7 * j') := by rw [show 14 + j' = 1 + 13 + j' by omega]; exact f0
    have f2 : M (14 + j') 2 = M 80 (13 + 7 * j') := by rw [show 14 + j' = 1 + 13 + j' by omega]; exact f2
    refine ⟨by rw [em 80 (by omega)]; exact f0, inv_one hI hN hj (fun c c1 c2 => by rw [up_o _ c2, up_o _ c2, em c c1]) ?_ (fun k k1 k2 k3 => ?_) ?_ ?_ ?_ ?_⟩
    · rw [up_cell (by omega), up_cell (by omega), up_slot _ (by omega), up_slot _ (by omega)]
    · rw [up_slot _ k1, up_slot _ k2, em 80 (by omega)]
    · rw [up_cell (by omega), up_cell (by omega), up_slot _ (by omega), up_same]; exact kind_km g1 g2
    · rw [up_same, up_cell (by omega), up_cell (by omega), up_slot _ (by omega), up_same]
    · rw [up_slot (j := 12 + 7 * j') 80 (by omega), up_same, up_cell (by omega), up_cell (by omega), up_same]
    · rw [up_slot (j := 13 + 7 * j') 80 (by omega), up_slot (j := 13 + 7 * j') 80 (by omega), up_cell (b := 14 + j') (by omega), up_cell (b := 14 + j') (by omega), up_slot _ (by omega), up_slot _ (by omega), em 80 (by omega)]; exact f2
  · have em : M1 80 = M 80 := h1 80 rfl
    exact m_become (by rw [em]; exact hN.2.1) (fun j hj ej g1 g2 => absurd ⟨by rw [ej, nI_toInt (by omega)]; omega, g1, g2⟩ g) (fun _ M2 h2 => ⟨rfl, inv_th hI hN h1 h2⟩)
theorem z_change {a c v : Int32} (hI : Inv i M) : wp_X7_change a c v M (fun _ M1 => wp_X8_change a c v M1 (fun _ M2 => Inv (i + 1) M2)) := by
  obtain ⟨n, b, t, hN⟩ := hI.2.1
  have hn := hN.1.1
  refine p_change hN.1.cn (fun j hj ej e0 g1 g2 r => ?_) (fun g r M1 h1 => ?_)
  · have em : ∀ c, c ≠ 14 + j → (up M (14 + j) 2 v) c = M c := fun c hc => up_o _ hc
    refine m_change (by rw [em 80 (by omega)]; exact hN.2.1) (fun j' hj' ej' _ _ _ r2 => ?_) (fun g => absurd ⟨by rw [ej, nI_toInt (by omega)]; omega, e0, g1, g2⟩ g)
    have : j' = j := (nI_eq (by omega) (by omega)).mp (ej'.symm.trans ej)
    subst this
    obtain ⟨f0, f1, f2⟩ := hN.2.2.2.2.2.2 j' hj
    have hK := (hN.1.2.2.2.2.2.2.1 j' hj).2
    rw [show 1 + 13 + j' = 14 + j' by omega] at f0 f1 hK
    refine inv_one hI hN hj (fun c c1 c2 => by rw [up_o _ c2, em c c1]) ?_ (fun k k1 k2 k3 => ?_) ?_ ?_ ?_ ?_
    · rw [up_cell (by omega), up_slot _ (by omega)]
    · rw [up_slot _ k3, em 80 (by omega)]
    · rw [up_cell (by omega), up_slot _ (by omega)]; exact hK
    · rw [up_cell (b := 14 + j') (by omega), up_slot _ (by omega), up_slot (j := 11 + 7 * j') 80 (by omega), em 80 (by omega)]; exact f0
    · rw [up_cell (b := 14 + j') (by omega), up_slot _ (by omega), up_slot (j := 12 + 7 * j') 80 (by omega), em 80 (by omega)]; exact f1
    · rw [up_same, up_cell (by omega), up_same]
  · have em : M1 80 = M 80 := h1.2.1 80 rfl
    exact m_change (by rw [em]; exact hN.2.1) (fun j hj ej e0 g1 g2 => absurd ⟨by rw [ej, nI_toInt (by omega)]; omega, e0, g1, g2⟩ g) (fun _ r2 M2 h2 => inv_n0 hI hN h1 h2)
theorem NW.km {n b t : Nat} {M M1 : Mem} (h : NW n b t M) (em : M1 80 = M 80) : ∀ q : Nat, q < n → KindOK (M1 80 (11 + 7 * q)) := fun q hq => by
  rw [em, ← (h.2.2.2.2.2.2 q hq).1]; exact (h.1.2.2.2.2.2.2.1 q hq).2
theorem z_as {a c : Int32} (hI : Inv i M) : wp_X7_as a c M (fun r1 M1 => wp_X8_as a c M1 (fun r2 M2 => r1 = r2 ∧ Inv (i + 1) M2)) := by
  obtain ⟨n, b, t, hN⟩ := hI.2.1
  have hn := hN.1.1
  have hK : ∀ q : Nat, q < n → KindOK (M (14 + q) 0) := fun q hq => by have := (hN.1.2.2.2.2.2.2.1 q hq).2; rwa [show 1 + 13 + q = 14 + q by omega] at this
  refine p_as hN.1.cn hI.1 hK (fun j k v hj ej hk ek hv ev => ⟨fun hy => ?_, fun hno M1 h1 => ?_⟩) (fun g M1 h1 => ?_)
  · refine m_as hN.2.1 (hN.km rfl) (fun j' k' v' hj' ej' hk' ek' hv' ev' => ⟨fun _ => ⟨?_, inv_th hI hN St.rf St.rf⟩, fun hno => ?_⟩) (fun g => absurd ⟨by rw [ej, nI_toInt (by omega)]; omega, by rw [ev, nI_toInt (by omega)]; omega⟩ g)
    · have : j' = j := (nI_eq (by omega) (by omega)).mp (ej'.symm.trans ej)
      subst this
      have := (hN.2.2.2.2.2.2 j' hj).2.1
      rw [show 1 + 13 + j' = 14 + j' by omega] at this; exact this
    · have e1 : j' = j := (nI_eq (by omega) (by omega)).mp (ej'.symm.trans ej)
      have e2 : v' = v := (nI_eq (by omega) (by omega)).mp (ev'.symm.trans ev)
      subst e1; subst e2
      have f0 := (hN.2.2.2.2.2.2 j' hj).1
      rw [show 1 + 13 + j' = 14 + j' by omega, ek, ek'] at f0
      have e3 : k = k' := (nI_eq (by omega) (by omega)).mp f0
      subst e3
      rw [hy] at hno; cases hno
  · have em : M1 80 = M 80 := h1 80 rfl
    refine m_as (by rw [em]; exact hN.2.1) (hN.km em) (fun j' k' v' hj' ej' hk' ek' hv' ev' => ⟨fun hy => ?_, fun _ M2 h2 => ⟨rfl, inv_th hI hN h1 h2⟩⟩) (fun g => absurd ⟨by rw [ej, nI_toInt (by omega)]; omega, by rw [ev, nI_toInt (by omega)]; omega⟩ g)
    have e1 : j' = j := (nI_eq (by omega) (by omega)).mp (ej'.symm.trans ej)
    have e2 : v' = v := (nI_eq (by omega) (by omega)).mp (ev'.symm.trans ev)
    subst e1; subst e2
    have f0 := (hN.2.2.2.2.2.2 j' hj).1
    rw [em] at ek'
    rw [show 1 + 13 + j' = 14 + j' by omega, ek, ek'] at f0
    have e3 : k = k' := (nI_eq (by omega) (by omega)).mp f0
    subst e3
    rw [hno] at hy; cases hy
  · have em : M1 80 = M 80 := h1 80 rfl
    exact m_as (by rw [em]; exact hN.2.1) (hN.km em) (fun j k v hj ej hk ek hv ev => absurd ⟨by rw [ej, nI_toInt (by omega)]; omega, by rw [ev, nI_toInt (by omega)]; omega⟩ g) (fun _ M2 h2 => ⟨rfl, inv_th hI hN h1 h2⟩)
theorem NW.oth {n b t : Nat} {M M2 : Mem} (h : NW n b t M) (hs : ∀ c, 1 ≤ c → c ≤ 22 → c ≠ 6 → c ≠ 11 → M2 c = M c) (h80 : M2 80 = M 80) : NW n b t M2 :=
  ⟨h.1.keep (fun c c1 c2 c3 c4 => hs c c1 c2 c3 c4), by rw [h80]; exact h.2.1, h.2.2.keep h.1.1 (fun c c1 c2 c3 c4 => hs c c1 c2 c3 c4) h80⟩
theorem vL_len (o a : Nat) : (vL o a).length ≤ 24 := by
  have := gL_len o; have := cL_len o o; have := sL_len o; have := t0L_len o
  unfold vL tL
  by_cases h0 : a = 0 <;> by_cases h1 : a = 1 <;> by_cases h2 : a = 2 <;> by_cases h4 : o = 4 <;> by_cases h6 : o = 6 <;> simp [h0, h1, h2, h4, h6] <;> (try subst h4) <;> (try subst h6) <;> (try simp at *) <;> omega
theorem z_voice {a c x : Int32} (hI : Inv i M) : wp_X7_voice a c x M (fun r1 M1 => wp_X8_voice a c x M1 (fun r2 M2 => r1 = r2 ∧ Inv (i + 1) M2)) := by
  obtain ⟨n, b, t, hN⟩ := hI.2.1
  have hn := hN.1.1
  have hK : ∀ q : Nat, q < n → KindOK (M (14 + q) 0) := fun q hq => by have := (hN.1.2.2.2.2.2.2.1 q hq).2; rwa [show 1 + 13 + q = 14 + q by omega] at this
  refine p_voice hN.1.cn hK (fun j k v hj ej hk ek hv ev M1 h1 => ?_) (fun g M1 h1 => ?_)
  · have ec : ∀ c, c ≠ 67 → c ≠ 68 → M1 c = M c := fun c c1 c2 => h1.1 c (by simp [c1, c2])
    have em : M1 80 = M 80 := ec 80 (by omega) (by omega)
    refine m_voice (by rw [em]; exact hN.2.1) (hN.km em) (fun j' k' v' hj' ej' hk' ek' hv' ev' M2 h2 => ?_) (fun g => absurd ⟨by rw [ej, nI_toInt (by omega)]; omega, by rw [ev, nI_toInt (by omega)]; omega⟩ g)
    have e1 : j' = j := (nI_eq (by omega) (by omega)).mp (ej'.symm.trans ej)
    have e2 : v' = v := (nI_eq (by omega) (by omega)).mp (ev'.symm.trans ev)
    subst e1; subst e2
    obtain ⟨f0, f1, f2⟩ := hN.2.2.2.2.2.2 j' hj
    rw [em] at ek'
    rw [show 1 + 13 + j' = 14 + j' by omega] at f0 f1
    rw [ek, ek'] at f0
    have e3 : k = k' := (nI_eq (by omega) (by omega)).mp f0
    subst e3
    have es : ∀ c, c ≠ 67 → c ≠ 68 → c ≠ 79 → c ≠ 91 → M2 c = M c := fun c c1 c2 c3 c4 => by rw [h2.1 c (by simp [c3, c4])]; exact ec c c1 c2
    refine ⟨by rw [em, f1], hI.1.keep (es _ (by omega) (by omega) (by omega) (by omega)), ⟨n, b, t, hN.oth (fun c c1 c2 _ _ => es c (by omega) (by omega) (by omega) (by omega)) (es _ (by omega) (by omega) (by omega) (by omega))⟩, hI.2.2.1.keep (fun c c1 c2 => es c (by omega) (by omega) (by omega) (by omega)) (es _ (by omega) (by omega) (by omega) (by omega)) (es _ (by omega) (by omega) (by omega) (by omega)) (es _ (by omega) (by omega) (by omega) (by omega)), ⟨(vL k v').length, by have := vL_len k v'; omega, by rw [h2.1 67 rfl]; exact h1.2.1, h2.2.1, fun q hq => ?_⟩, hI.2.2.2.2.keep (es _ (by omega) (by omega) (by omega) (by omega)) (h2.2.2.2.2.2.2.1.trans (by rw [ec 79 (by omega) (by omega)])) (h2.2.2.2.2.2.2.2.trans (by rw [ec 79 (by omega) (by omega)])) (fun c c1 c2 _ _ => es c (by omega) (by omega) (by omega) (by omega)) (es _ (by omega) (by omega) (by omega) (by omega))⟩
    rw [h2.1 68 rfl, h1.2.2.2.2.2 q hq, h2.2.2.2.2.2.1 q hq]
  · have em : M1 80 = M 80 := h1 80 rfl
    exact m_voice (by rw [em]; exact hN.2.1) (hN.km em) (fun j k v hj ej hk ek hv ev => absurd ⟨by rw [ej, nI_toInt (by omega)]; omega, by rw [ev, nI_toInt (by omega)]; omega⟩ g) (fun _ M2 h2 => ⟨rfl, inv_th hI hN h1 h2⟩)
/-- the sheets alone change -/
theorem inv_sh {n b t : Nat} {M2 : Mem} (hI : Inv i M) (hN : NW n b t M) (hs : ∀ c, (c < 70 ∨ 77 < c) → c ≠ 87 → c ≠ 88 → c ≠ 89 → c ≠ 90 → M2 c = M c) (hS : SH M2) : Inv (i + 1) M2 :=
  ⟨hI.1.keep (hs _ (by omega) (by omega) (by omega) (by omega) (by omega)), ⟨n, b, t, hN.oth (fun c c1 c2 _ _ => hs c (by omega) (by omega) (by omega) (by omega) (by omega)) (hs _ (by omega) (by omega) (by omega) (by omega) (by omega))⟩, hS,
    hI.2.2.2.1.keep (hs _ (by omega) (by omega) (by omega) (by omega) (by omega)) (hs _ (by omega) (by omega) (by omega) (by omega) (by omega)) (hs _ (by omega) (by omega) (by omega) (by omega) (by omega)) (by rw [hs 79 (by omega) (by omega) (by omega) (by omega) (by omega)]),
    hI.2.2.2.2.keep (hs _ (by omega) (by omega) (by omega) (by omega) (by omega)) (by rw [hs 79 (by omega) (by omega) (by omega) (by omega) (by omega)]) (by rw [hs 79 (by omega) (by omega) (by omega) (by omega) (by omega)]) (fun c c1 c2 _ _ => hs c (by omega) (by omega) (by omega) (by omega) (by omega)) (hs _ (by omega) (by omega) (by omega) (by omega) (by omega))⟩
theorem z_sheet {a c v : Int32} (hI : Inv i M) : wp_X7_sheet a c v M (fun r1 M1 => wp_X8_sheet a c v M1 (fun r2 M2 => r1 = r2 ∧ Inv (i + 1) M2)) := by
  obtain ⟨n, b, t, hN⟩ := hI.2.1
  refine p_sheet (fun j z hj ej hz h0 h1 M1 c1 c2 c3 c4 c5 => ?_) (fun hne M1 h1 => m_sheet (fun _ _ _ _ _ _ _ _ _ _ _ _ _ _ e => absurd e hne) (fun _ M2 h2 => ⟨rfl, inv_th hI hN h1 h2⟩))
  refine m_sheet (fun j' z' hj' ej' hz' h0' h1' M2 d1 d2 d3 d4 d5 d6 _ => ⟨rfl, ?_⟩) (fun hne => absurd c5 hne)
  have e1 : j' = j := (nI_eq (by omega) (by omega)).mp (ej'.symm.trans ej)
  subst e1
  have ezz : z' = z := by
    by_cases g : c = 0
    · rw [h0 g, h0' g]
    · exact (nI_eq (by omega) (by omega)).mp ((h1' g).symm.trans (h1 g))
  subst ezz
  have ec : ∀ q, q ≠ 70 + 2 * j' → q ≠ 71 + 2 * j' → M1 q = M q := fun q q1 q2 => c1 q (by simp [q1, q2])
  have ed : ∀ q, q ≠ 87 → q ≠ 88 → q ≠ 89 → M2 q = M1 q := fun q q1 q2 q3 => d1 q (by simp [q1, q2, q3])
  refine inv_sh hI hN (fun q q1 q2 q3 q4 q5 => by rw [ed q q2 q3 q4, ec q (by omega) (by omega)]) (fun k hk => ?_)
  by_cases g : k = j'
  · subst g
    refine ⟨z', hz, by rw [ed _ (by omega) (by omega) (by omega)]; exact c3, d3, by rw [ed _ (by omega) (by omega) (by omega), c2, d2], fun x hx => ?_⟩
    rw [ed _ (by omega) (by omega) (by omega), c4 x hx, d5 x hx]
  · obtain ⟨y, hy, f1, f2, f3, f4⟩ := hI.2.2.1 k hk
    refine ⟨y, hy, by rw [ed _ (by omega) (by omega) (by omega), ec _ (by omega) (by omega)]; exact f1, by rw [(d4 k g).2, ec 88 (by omega) (by omega)]; exact f2, by rw [ed _ (by omega) (by omega) (by omega), ec _ (by omega) (by omega), (d4 k g).1, ec 87 (by omega) (by omega)]; exact f3, fun x hx => ?_⟩
    rw [ed _ (by omega) (by omega) (by omega), ec _ (by omega) (by omega), d6 _ (by omega), ec 89 (by omega) (by omega)]; exact f4 x hx
theorem z_put {a c v : Int32} (hI : Inv i M) : wp_X7_put a c v M (fun r1 M1 => wp_X8_put a c v M1 (fun r2 M2 => r1 = r2 ∧ Inv (i + 1) M2)) := by
  obtain ⟨n, b, t, hN⟩ := hI.2.1
  have hS := hI.2.2.1
  have inj : ∀ {p q : Nat} {v : Int32}, p < 41 → q < 41 → v = nI p → v = nI q → q = p := fun hp hq e1 e2 => (nI_eq (by omega) (by omega)).mp (e2.symm.trans e1)
  have hm : ∀ {M1 : Mem}, (∀ c, 79 ≤ c → M1 c = M c) → SMc M1 := fun h j hj => by rw [h 88 (by omega)]; exact hS.m j hj
  have sx : ∀ {M1 : Mem}, St SX M M1 → (∀ c, 79 ≤ c → M1 c = M c) := fun h1 c hc => h1 c (by simp <;> omega)
  refine p_put hS.c (fun j z k hj ej ez hz hbt hk ek => ?_) (fun g M1 h1 => ?_) (fun j hj ej hb0 M1 h1 => ?_) (fun j z hj ej ez hz hbt g M1 h1 => ?_)
  · have em : ∀ c, c ≠ 71 + 2 * j → (up M (71 + 2 * j) k (narB (M (70 + 2 * j) 1) v)) c = M c := fun c hc => up_o _ hc
    have em2 : ∀ c, 79 ≤ c → (up M (71 + 2 * j) k (narB (M (70 + 2 * j) 1) v)) c = M c := fun c hc => em c (by omega)
    obtain ⟨z', hz', f1, f2, f3, f4⟩ := hS j hj
    have hzz : z' = z := (nI_eq (by omega) (by omega)).mp (f1.symm.trans ez)
    subst hzz
    refine m_put (hm em2) (fun j' z2 k' hj' ej' ez' hz2 hb' hk' ek' => ⟨rfl, ?_⟩) (fun g => absurd (by rw [ej, nI_toInt (by omega)]; omega) g) (fun j' hj' ej' hb' => ?_) (fun j' z2 hj' ej' ez2 hz2 hb' g => ?_)
    · have e1 := inj (by omega) (by omega) ej ej'; subst e1
      have e2 := inj (by omega) (by omega) ek ek'; subst e2
      refine inv_sh hI hN (fun q q1 q2 q3 q4 q5 => by rw [up_o _ q4, em q (by omega)]) (fun p hp => ?_)
      obtain ⟨y, hy, r1, r2, r3, r4⟩ := hS p hp
      refine ⟨y, hy, by rw [up_o _ (by omega), em _ (by omega)]; exact r1, by rw [up_o _ (by omega), em _ (by omega)]; exact r2, by rw [up_o _ (by omega), em _ (by omega), up_o _ (by omega), em _ (by omega)]; exact r3, fun x hx => ?_⟩
      rw [up_o (i := 89) (71 + 2 * p) (by omega)]
      by_cases e3 : p = j' ∧ x = k'
      · obtain ⟨rfl, rfl⟩ := e3
        rw [up_same, up_same, em 87 (by omega), f3]
      · rw [up_slot (j := 40 * p + x) 89 (by omega), em 89 (by omega)]
        by_cases e4 : p = j'
        · subst e4
          rw [up_slot _ (by omega)]; exact r4 x hx
        · rw [em _ (by omega)]; exact r4 x hx
    · have e1 := inj (by omega) (by omega) ej ej'; subst e1
      rw [em 87 (by omega), ← f3] at hb'; exact absurd hb' hbt
    · have e1 := inj (by omega) (by omega) ej ej'; subst e1
      have hz3 : z2 = z' := (nI_eq (by omega) (by omega)).mp (ez2.symm.trans (by rw [em 88 (by omega)]; exact f2))
      subst hz3
      exact absurd (by rw [ek, nI_toInt (by omega)]; omega) g
  · have em := sx h1
    exact m_put (hm em) (fun j z k hj ej => absurd (by rw [ej, nI_toInt (by omega)]; omega) g) (fun _ M2 h2 => ⟨rfl, inv_th hI hN h1 h2⟩) (fun j hj ej => absurd (by rw [ej, nI_toInt (by omega)]; omega) g) (fun j z hj ej => absurd (by rw [ej, nI_toInt (by omega)]; omega) g)
  · have em := sx h1
    obtain ⟨z', hz', f1, f2, f3, f4⟩ := hS j hj
    refine m_put (hm em) (fun j' z2 k' hj' ej' ez' hz2 hb' => ?_) (fun g => absurd (by rw [ej, nI_toInt (by omega)]; omega) g) (fun j' hj' ej' hb' M2 h2 => ⟨rfl, inv_th hI hN h1 h2⟩) (fun j' z2 hj' ej' ez2 hz2 hb' => ?_)
    · have e1 := inj (by omega) (by omega) ej ej'; subst e1
      rw [em 87 (by omega), ← f3] at hb'; exact absurd hb0 hb'
    · have e1 := inj (by omega) (by omega) ej ej'; subst e1
      rw [em 87 (by omega), ← f3] at hb'; exact absurd hb0 hb'
  · have em := sx h1
    obtain ⟨z', hz', f1, f2, f3, f4⟩ := hS j hj
    have hzz : z' = z := (nI_eq (by omega) (by omega)).mp (f1.symm.trans ez)
    subst hzz
    refine m_put (hm em) (fun j' z2 k' hj' ej' ez' hz2 hb' hk' ek' => ?_) (fun g => absurd (by rw [ej, nI_toInt (by omega)]; omega) g) (fun j' hj' ej' hb' => ?_) (fun j' z2 hj' ej' ez2 hz2 hb' _ M2 h2 => ⟨rfl, inv_th hI hN h1 h2⟩)
    · have e1 := inj (by omega) (by omega) ej ej'; subst e1
      have hz3 : z2 = z' := (nI_eq (by omega) (by omega)).mp (ez'.symm.trans (by rw [em 88 (by omega)]; exact f2))
      subst hz3
      exact absurd (by rw [ek', nI_toInt (by omega)]; omega) g
    · have e1 := inj (by omega) (by omega) ej ej'; subst e1
      rw [em 87 (by omega), ← f3] at hb'; exact absurd hb' hbt
end ZU
