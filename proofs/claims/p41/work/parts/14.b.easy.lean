section ZE
variable {i : Nat} {M : Mem}
theorem inv2_sh {M2 : Mem} (hI : Inv2 i M) (hs : ∀ c, (c < 70 ∨ 77 < c) → c ≠ 87 → c ≠ 88 → c ≠ 89 → c ≠ 90 → M2 c = M c) (hS : SH M2) : Inv2 (i + 1) M2 := by
  obtain ⟨n, b, t, V, h, hA⟩ := hI.2.1
  exact ⟨hI.1.keep (hs _ (by omega) (by omega) (by omega) (by omega) (by omega)), ⟨n, b, t, V, h, hA.keep (fun c c1 c2 _ _ => hs c (by omega) (by omega) (by omega) (by omega) (by omega)) (hs _ (by omega) (by omega) (by omega) (by omega) (by omega))⟩, hS,
    hI.2.2.2.1.keep (hs _ (by omega) (by omega) (by omega) (by omega) (by omega)) (hs _ (by omega) (by omega) (by omega) (by omega) (by omega)) (hs _ (by omega) (by omega) (by omega) (by omega) (by omega)) (by rw [hs 79 (by omega) (by omega) (by omega) (by omega) (by omega)]),
    hI.2.2.2.2.keep (hs _ (by omega) (by omega) (by omega) (by omega) (by omega)) (by rw [hs 79 (by omega) (by omega) (by omega) (by omega) (by omega)]) (by rw [hs 79 (by omega) (by omega) (by omega) (by omega) (by omega)]) (fun c c1 c2 _ _ => hs c (by omega) (by omega) (by omega) (by omega) (by omega)) (hs _ (by omega) (by omega) (by omega) (by omega) (by omega))⟩
theorem z2_then {a b c : Int32} (hI : Inv2 i M) : wp_X7_then a b c M (fun _ M1 => wp_X8_then a b c M1 (fun _ M2 => Inv2 (i + 1) M2)) := by
  obtain ⟨n, x, t, hN⟩ := hI.inv.2.1
  exact p_then hN.1.cn (fun r M1 h1 => m_then (by rw [h1 80 rfl]; exact hN.2.1) (fun r2 M2 h2 => hI.th h1 h2))
theorem z2_when {a : Int32} (hI : Inv2 i M) : wp_X7_when a M (fun _ M1 => wp_X8_when a M1 (fun _ M2 => Inv2 (i + 1) M2)) := by
  obtain ⟨n, x, t, hN⟩ := hI.inv.2.1
  exact p_when hN.1.cn (fun r M1 h1 => m_when (by rw [h1 80 rfl]; exact hN.2.1) (fun r2 M2 h2 => hI.th h1 h2))
theorem z2_ended {a : Int32} (hI : Inv2 i M) : wp_X7_ended a M (fun _ M1 => wp_X8_ended a M1 (fun _ M2 => Inv2 (i + 1) M2)) := by
  obtain ⟨n, x, t, hN⟩ := hI.inv.2.1
  exact p_ended hN.1.cn (fun r M1 h1 => m_ended (by rw [h1 80 rfl]; exact hN.2.1) (fun r2 M2 h2 => hI.th h1 h2))
theorem z2_start {a b : Int32} (hI : Inv2 i M) : wp_X7_start a b M (fun _ M1 => wp_X8_start a b M1 (fun _ M2 => Inv2 (i + 1) M2)) := by
  obtain ⟨n, x, t, hN⟩ := hI.inv.2.1
  exact p_start hN.1.cn (fun r M1 h1 => m_start (by rw [h1 80 rfl]; exact hN.2.1) (fun r2 M2 h2 => hI.th h1 h2))
theorem z2_pace {a b : Int32} (hI : Inv2 i M) : wp_X7_pace a b M (fun _ M1 => wp_X8_pace a b M1 (fun _ M2 => Inv2 (i + 1) M2)) := by
  obtain ⟨n, x, t, hN⟩ := hI.inv.2.1
  exact p_pace hN.1.cn (fun r M1 h1 => m_pace (by rw [h1 80 rfl]; exact hN.2.1) (fun r2 M2 h2 => hI.th h1 h2))
theorem z2_hand {a b : Int32} (hI : Inv2 i M) : wp_X7_hand a b M (fun _ M1 => wp_X8_hand a b M1 (fun _ M2 => Inv2 (i + 1) M2)) := by
  obtain ⟨n, x, t, hN⟩ := hI.inv.2.1
  exact p_hand hN.1.cn (fun r M1 h1 => m_hand (by rw [h1 80 rfl]; exact hN.2.1) (fun r2 M2 h2 => hI.th h1 h2))
theorem z2_first {a b : Int32} (hI : Inv2 i M) : wp_X7_first a b M (fun _ M1 => wp_X8_first a b M1 (fun _ M2 => Inv2 (i + 1) M2)) := by
  obtain ⟨n, x, t, hN⟩ := hI.inv.2.1
  exact p_first hN.1.cn (fun r M1 h1 => m_first (by rw [h1 80 rfl]; exact hN.2.1) (fun r2 M2 h2 => hI.th h1 h2))
theorem z2_last {a : Int32} (hI : Inv2 i M) : wp_X7_last a M (fun _ M1 => wp_X8_last a M1 (fun _ M2 => Inv2 (i + 1) M2)) := by
  obtain ⟨n, x, t, hN⟩ := hI.inv.2.1
  exact p_last hN.1.cn (fun r M1 h1 => m_last (by rw [h1 80 rfl]; exact hN.2.1) (fun r2 M2 h2 => hI.th h1 h2))
theorem z2_sharp {a b : Int32} (hI : Inv2 i M) : wp_X7_sharp a b M (fun _ M1 => wp_X8_sharp a b M1 (fun _ M2 => Inv2 (i + 1) M2)) := by
  obtain ⟨n, x, t, hN⟩ := hI.inv.2.1
  exact p_sharp hN.1.cn (fun r M1 h1 => m_sharp (by rw [h1 80 rfl]; exact hN.2.1) (fun r2 M2 h2 => hI.th h1 h2))
theorem z2_off {a : Int32} (hI : Inv2 i M) : wp_X7_off a M (fun _ M1 => wp_X8_off a M1 (fun _ M2 => Inv2 (i + 1) M2)) := by
  obtain ⟨n, x, t, hN⟩ := hI.inv.2.1
  exact p_off hN.1.cn (fun r M1 h1 => m_off (by rw [h1 80 rfl]; exact hN.2.1) (fun r2 M2 h2 => hI.th h1 h2))
theorem z2_chain {a : Int32} (hI : Inv2 i M) : wp_X7_chain a M (fun _ M1 => wp_X8_chain a M1 (fun _ M2 => Inv2 (i + 1) M2)) := by
  obtain ⟨n, x, t, hN⟩ := hI.inv.2.1
  exact p_chain hN.1.cn (fun r M1 h1 => m_chain (by rw [h1 80 rfl]; exact hN.2.1) (fun r2 M2 h2 => hI.th h1 h2))
theorem z2_fee {a : Int32} (hI : Inv2 i M) : wp_X7_fee a M (fun _ M1 => wp_X8_fee a M1 (fun _ M2 => Inv2 (i + 1) M2)) := by
  obtain ⟨n, x, t, hN⟩ := hI.inv.2.1
  exact p_fee hN.1.cn (fun r M1 h1 => m_fee (by rw [h1 80 rfl]; exact hN.2.1) (fun r2 M2 h2 => hI.th h1 h2))
theorem z2_free (hI : Inv2 i M) : wp_X7_free  M (fun _ M1 => wp_X8_free  M1 (fun _ M2 => Inv2 (i + 1) M2)) := by
  obtain ⟨n, x, t, hN⟩ := hI.inv.2.1
  exact p_free hN.1.cn (fun r M1 h1 => m_free (by rw [h1 80 rfl]; exact hN.2.1) (fun r2 M2 h2 => hI.th h1 h2))
theorem z2_odds {a b c : Int32} (hI : Inv2 i M) : wp_X7_odds a b c M (fun _ M1 => wp_X8_odds a b c M1 (fun _ M2 => Inv2 (i + 1) M2)) := by
  obtain ⟨n, x, t, hN⟩ := hI.inv.2.1
  exact p_odds hN.1.cn (fun r M1 h1 => m_odds (by rw [h1 80 rfl]; exact hN.2.1) (fun r2 M2 h2 => hI.th h1 h2))
theorem z2_ofQuarrel {a b : Int32} (hI : Inv2 i M) : wp_X7_ofQuarrel a b M (fun _ M1 => wp_X8_ofQuarrel a b M1 (fun _ M2 => Inv2 (i + 1) M2)) := by
  obtain ⟨n, x, t, hN⟩ := hI.inv.2.1
  exact p_ofQuarrel hN.1.cn (fun r M1 h1 => m_ofQuarrel (by rw [h1 80 rfl]; exact hN.2.1) (fun r2 M2 h2 => hI.th h1 h2))
theorem z2_count {a : Int32} (hI : Inv2 i M) : wp_X7_count a M (fun _ M1 => wp_X8_count a M1 (fun _ M2 => Inv2 (i + 1) M2)) := by
  obtain ⟨n, x, t, hN⟩ := hI.inv.2.1
  exact p_count hN.1.cn (fun r M1 h1 => m_count (by rw [h1 80 rfl]; exact hN.2.1) (fun r2 M2 h2 => hI.th h1 h2))
theorem z2_told {a : Int32} (hI : Inv2 i M) : wp_X7_told a M (fun _ M1 => wp_X8_told a M1 (fun _ M2 => Inv2 (i + 1) M2)) := by
  obtain ⟨n, x, t, hN⟩ := hI.inv.2.1
  exact p_told (fun r M1 h1 => m_told (fun r2 M2 h2 => hI.th h1 h2))
theorem z2_sparks {a b : Int32} (hI : Inv2 i M) : wp_X7_sparks a b M (fun _ M1 => wp_X8_sparks a b M1 (fun _ M2 => Inv2 (i + 1) M2)) := by
  obtain ⟨n, x, t, hN⟩ := hI.inv.2.1
  exact p_sparks hN.1.cn hI.2.2.1.c (fun r M1 h1 => m_sparks (by rw [h1 80 rfl]; exact hN.2.1) (fun j hj => by rw [h1 88 rfl]; exact hI.2.2.1.m j hj) (fun r2 M2 h2 => hI.th h1 h2))
theorem z2_judge {a : Int32} (hI : Inv2 i M) : wp_X7_judge a M (fun _ M1 => wp_X8_judge a M1 (fun _ M2 => Inv2 (i + 1) M2)) := by
  obtain ⟨n, x, t, hN⟩ := hI.inv.2.1
  exact p_judge hN.1.cn hI.2.2.1.c (fun r M1 h1 => m_judge (by rw [h1 80 rfl]; exact hN.2.1) (fun j hj => by rw [h1 88 rfl]; exact hI.2.2.1.m j hj) (fun r2 M2 h2 => hI.th h1 h2))
theorem z2_inArea {a : Int32} (hI : Inv2 i M) : wp_X7_inArea a M (fun r1 M1 => wp_X8_inArea a M1 (fun r2 M2 => r1 = r2 ∧ Inv2 (i + 1) M2)) := by
  obtain ⟨n, x, t, hN⟩ := hI.inv.2.1
  refine p_inArea hN.1.cn (fun g1 g2 => m_inArea hN.2.1 (fun _ _ => ⟨setIn_congr n (fun k hk => ?_), hI.th St.rf St.rf⟩) (fun g => absurd ⟨g1, g2⟩ g)) (fun g M1 h1 => m_inArea (by rw [h1 80 rfl]; exact hN.2.1) (fun g1 g2 => absurd ⟨g1, g2⟩ g) (fun _ M2 h2 => ⟨rfl, hI.th h1 h2⟩))
  exact (hN.2.2.2.2.2.2 k hk).2.2
theorem z2_as {a c : Int32} (hI : Inv2 i M) : wp_X7_as a c M (fun r1 M1 => wp_X8_as a c M1 (fun r2 M2 => r1 = r2 ∧ Inv2 (i + 1) M2)) := by
  obtain ⟨n, b, t, hN⟩ := hI.inv.2.1
  have hn := hN.1.1
  have hK : ∀ q : Nat, q < n → KindOK (M (14 + q) 0) := fun q hq => by have := (hN.1.2.2.2.2.2.2.1 q hq).2; rwa [show 1 + 13 + q = 14 + q by omega] at this
  refine p_as hN.1.cn hI.1 hK (fun j k v hj ej hk ek hv ev => ⟨fun hy => ?_, fun hno M1 h1 => ?_⟩) (fun g M1 h1 => ?_)
  · refine m_as hN.2.1 (hN.km rfl) (fun j' k' v' hj' ej' hk' ek' hv' ev' => ⟨fun _ => ⟨?_, hI.th St.rf St.rf⟩, fun hno => ?_⟩) (fun g => absurd ⟨by rw [ej, nI_toInt (by omega)]; omega, by rw [ev, nI_toInt (by omega)]; omega⟩ g)
    · have : j' = j := (nI_eq (by omega) (by omega)).mp (ej'.symm.trans ej)
      subst this
      have := (hN.2.2.2.2.2.2 j' hj).2.1
      rw [show 1 + 13 + j' = 14 + j' by omega] at this; exact this
    · have e1 : j' = j := (nI_eq (by omega) (by omega)).mp (ej'.symm.trans ej)
      have e2 : v' = v := (nI_eq (by omega) (by omega)).mp (ev'.symm.trans ev)
      subst e1; subst e2
      have f0 := (hN.2.2.2.2.2.2 j' hj).1
      rw [show 1 + 13 + j' = 14 + j' by omega, ek, ek'] at f0
      have e3 : k = k' := (nI_eq (by omega) (by omega)).mp f0
      subst e3
      rw [hy] at hno; cases hno
  · have em : M1 80 = M 80 := h1 80 rfl
    refine m_as (by rw [em]; exact hN.2.1) (hN.km em) (fun j' k' v' hj' ej' hk' ek' hv' ev' => ⟨fun hy => ?_, fun _ M2 h2 => ⟨rfl, hI.th h1 h2⟩⟩) (fun g => absurd ⟨by rw [ej, nI_toInt (by omega)]; omega, by rw [ev, nI_toInt (by omega)]; omega⟩ g)
    have e1 : j' = j := (nI_eq (by omega) (by omega)).mp (ej'.symm.trans ej)
    have e2 : v' = v := (nI_eq (by omega) (by omega)).mp (ev'.symm.trans ev)
    subst e1; subst e2
    have f0 := (hN.2.2.2.2.2.2 j' hj).1
    rw [em] at ek'
    rw [show 1 + 13 + j' = 14 + j' by omega, ek, ek'] at f0
    have e3 : k = k' := (nI_eq (by omega) (by omega)).mp f0
    subst e3
    rw [hno] at hy; cases hy
  · have em : M1 80 = M 80 := h1 80 rfl
    exact m_as (by rw [em]; exact hN.2.1) (hN.km em) (fun j k v hj ej hk ek hv ev => absurd ⟨by rw [ej, nI_toInt (by omega)]; omega, by rw [ev, nI_toInt (by omega)]; omega⟩ g) (fun _ M2 h2 => ⟨rfl, hI.th h1 h2⟩)
theorem z2_trace {a : Int32} (hI : Inv2 i M) : wp_X7_trace a M (fun r1 M1 => wp_X8_trace a M1 (fun r2 M2 => r1 = r2 ∧ Inv2 (i + 1) M2)) := by
  obtain ⟨n, x, t, hN⟩ := hI.inv.2.1
  obtain ⟨z, hz, e1, e2, e3⟩ := hI.2.2.2.1
  refine p_trace hz e1 (fun j hj ej => ?_) (fun g M1 h1 => ?_)
  · refine m_trace hz e2 (fun j' hj' ej' => ⟨?_, hI.th St.rf St.rf⟩) (fun g => absurd (by rw [ej, nI_toInt (by omega)]; omega) g)
    have : j' = j := (nI_eq (by omega) (by omega)).mp (ej'.symm.trans ej)
    subst this; exact e3 j' hj
  · have em : ∀ c, 79 ≤ c → M1 c = M c := fun c hc => h1 c (by simp <;> omega)
    exact m_trace hz (by rw [em 79 (by omega)]; exact e2) (fun j hj ej => absurd (by rw [ej, nI_toInt (by omega)]; omega) g) (fun _ M2 h2 => ⟨rfl, hI.th h1 h2⟩)
theorem z2_sheet {a c v : Int32} (hI : Inv2 i M) : wp_X7_sheet a c v M (fun r1 M1 => wp_X8_sheet a c v M1 (fun r2 M2 => r1 = r2 ∧ Inv2 (i + 1) M2)) := by
  obtain ⟨n, b, t, hN⟩ := hI.inv.2.1
  refine p_sheet (fun j z hj ej hz h0 h1 M1 c1 c2 c3 c4 c5 => ?_) (fun hne M1 h1 => m_sheet (fun _ _ _ _ _ _ _ _ _ _ _ _ _ _ e => absurd e hne) (fun _ M2 h2 => ⟨rfl, hI.th h1 h2⟩))
  refine m_sheet (fun j' z' hj' ej' hz' h0' h1' M2 d1 d2 d3 d4 d5 d6 _ => ⟨rfl, ?_⟩) (fun hne => absurd c5 hne)
  have e1 : j' = j := (nI_eq (by omega) (by omega)).mp (ej'.symm.trans ej)
  subst e1
  have ezz : z' = z := by
    by_cases g : c = 0
    · rw [h0 g, h0' g]
    · exact (nI_eq (by omega) (by omega)).mp ((h1' g).symm.trans (h1 g))
  subst ezz
  have ec : ∀ q, q ≠ 70 + 2 * j' → q ≠ 71 + 2 * j' → M1 q = M q := fun q q1 q2 => c1 q (by simp [q1, q2])
  have ed : ∀ q, q ≠ 87 → q ≠ 88 → q ≠ 89 → M2 q = M1 q := fun q q1 q2 q3 => d1 q (by simp [q1, q2, q3])
  refine inv2_sh hI (fun q q1 q2 q3 q4 q5 => by rw [ed q q2 q3 q4, ec q (by omega) (by omega)]) (fun k hk => ?_)
  by_cases g : k = j'
  · subst g
    refine ⟨z', hz, by rw [ed _ (by omega) (by omega) (by omega)]; exact c3, d3, by rw [ed _ (by omega) (by omega) (by omega), c2, d2], fun x hx => ?_⟩
    rw [ed _ (by omega) (by omega) (by omega), c4 x hx, d5 x hx]
  · obtain ⟨y, hy, f1, f2, f3, f4⟩ := hI.2.2.1 k hk
    refine ⟨y, hy, by rw [ed _ (by omega) (by omega) (by omega), ec _ (by omega) (by omega)]; exact f1, by rw [(d4 k g).2, ec 88 (by omega) (by omega)]; exact f2, by rw [ed _ (by omega) (by omega) (by omega), ec _ (by omega) (by omega), (d4 k g).1, ec 87 (by omega) (by omega)]; exact f3, fun x hx => ?_⟩
    rw [ed _ (by omega) (by omega) (by omega), ec _ (by omega) (by omega), d6 _ (by omega), ec 89 (by omega) (by omega)]; exact f4 x hx
theorem z2_put {a c v : Int32} (hI : Inv2 i M) : wp_X7_put a c v M (fun r1 M1 => wp_X8_put a c v M1 (fun r2 M2 => r1 = r2 ∧ Inv2 (i + 1) M2)) := by
  obtain ⟨n, b, t, hN⟩ := hI.inv.2.1
  have hS := hI.2.2.1
  have inj : ∀ {p q : Nat} {v : Int32}, p < 41 → q < 41 → v = nI p → v = nI q → q = p := fun hp hq e1 e2 => (nI_eq (by omega) (by omega)).mp (e2.symm.trans e1)
  have hm : ∀ {M1 : Mem}, (∀ c, 79 ≤ c → M1 c = M c) → SMc M1 := fun h j hj => by rw [h 88 (by omega)]; exact hS.m j hj
  have sx : ∀ {M1 : Mem}, St SX M M1 → (∀ c, 79 ≤ c → M1 c = M c) := fun h1 c hc => h1 c (by simp <;> omega)
  refine p_put hS.c (fun j z k hj ej ez hz hbt hk ek => ?_) (fun g M1 h1 => ?_) (fun j hj ej hb0 M1 h1 => ?_) (fun j z hj ej ez hz hbt g M1 h1 => ?_)
  · have em : ∀ c, c ≠ 71 + 2 * j → (up M (71 + 2 * j) k (narB (M (70 + 2 * j) 1) v)) c = M c := fun c hc => up_o _ hc
    have em2 : ∀ c, 79 ≤ c → (up M (71 + 2 * j) k (narB (M (70 + 2 * j) 1) v)) c = M c := fun c hc => em c (by omega)
    obtain ⟨z', hz', f1, f2, f3, f4⟩ := hS j hj
    have hzz : z' = z := (nI_eq (by omega) (by omega)).mp (f1.symm.trans ez)
    subst hzz
    refine m_put (hm em2) (fun j' z2 k' hj' ej' ez' hz2 hb' hk' ek' => ⟨rfl, ?_⟩) (fun g => absurd (by rw [ej, nI_toInt (by omega)]; omega) g) (fun j' hj' ej' hb' => ?_) (fun j' z2 hj' ej' ez2 hz2 hb' g => ?_)
    · have e1 := inj (by omega) (by omega) ej ej'; subst e1
      have e2 := inj (by omega) (by omega) ek ek'; subst e2
      refine inv2_sh hI (fun q q1 q2 q3 q4 q5 => by rw [up_o _ q4, em q (by omega)]) (fun p hp => ?_)
      obtain ⟨y, hy, r1, r2, r3, r4⟩ := hS p hp
      refine ⟨y, hy, by rw [up_o _ (by omega), em _ (by omega)]; exact r1, by rw [up_o _ (by omega), em _ (by omega)]; exact r2, by rw [up_o _ (by omega), em _ (by omega), up_o _ (by omega), em _ (by omega)]; exact r3, fun x hx => ?_⟩
      rw [up_o (i := 89) (71 + 2 * p) (by omega)]
      by_cases e3 : p = j' ∧ x = k'
      · obtain ⟨rfl, rfl⟩ := e3
        rw [up_same, up_same, em 87 (by omega), f3]
      · rw [up_slot (j := 40 * p + x) 89 (by omega), em 89 (by omega)]
        by_cases e4 : p = j'
        · subst e4
          rw [up_slot _ (by omega)]; exact r4 x hx
        · rw [em _ (by omega)]; exact r4 x hx
    · have e1 := inj (by omega) (by omega) ej ej'; subst e1
      rw [em 87 (by omega), ← f3] at hb'; exact absurd hb' hbt
    · have e1 := inj (by omega) (by omega) ej ej'; subst e1
      have hz3 : z2 = z' := (nI_eq (by omega) (by omega)).mp (ez2.symm.trans (by rw [em 88 (by omega)]; exact f2))
      subst hz3
      exact absurd (by rw [ek, nI_toInt (by omega)]; omega) g
  · have em := sx h1
    exact m_put (hm em) (fun j z k hj ej => absurd (by rw [ej, nI_toInt (by omega)]; omega) g) (fun _ M2 h2 => ⟨rfl, hI.th h1 h2⟩) (fun j hj ej => absurd (by rw [ej, nI_toInt (by omega)]; omega) g) (fun j z hj ej => absurd (by rw [ej, nI_toInt (by omega)]; omega) g)
  · have em := sx h1
    obtain ⟨z', hz', f1, f2, f3, f4⟩ := hS j hj
    refine m_put (hm em) (fun j' z2 k' hj' ej' ez' hz2 hb' => ?_) (fun g => absurd (by rw [ej, nI_toInt (by omega)]; omega) g) (fun j' hj' ej' hb' M2 h2 => ⟨rfl, hI.th h1 h2⟩) (fun j' z2 hj' ej' ez2 hz2 hb' => ?_)
    · have e1 := inj (by omega) (by omega) ej ej'; subst e1
      rw [em 87 (by omega), ← f3] at hb'; exact absurd hb0 hb'
    · have e1 := inj (by omega) (by omega) ej ej'; subst e1
      rw [em 87 (by omega), ← f3] at hb'; exact absurd hb0 hb'
  · have em := sx h1
    obtain ⟨z', hz', f1, f2, f3, f4⟩ := hS j hj
    have hzz : z' = z := (nI_eq (by omega) (by omega)).mp (f1.symm.trans ez)
    subst hzz
    refine m_put (hm em) (fun j' z2 k' hj' ej' ez' hz2 hb' hk' ek' => ?_) (fun g => absurd (by rw [ej, nI_toInt (by omega)]; omega) g) (fun j' hj' ej' hb' => ?_) (fun j' z2 hj' ej' ez2 hz2 hb' _ M2 h2 => ⟨rfl, hI.th h1 h2⟩)
    · have e1 := inj (by omega) (by omega) ej ej'; subst e1
      have hz3 : z2 = z' := (nI_eq (by omega) (by omega)).mp (ez'.symm.trans (by rw [em 88 (by omega)]; exact f2))
      subst hz3
      exact absurd (by rw [ek', nI_toInt (by omega)]; omega) g
    · have e1 := inj (by omega) (by omega) ej ej'; subst e1
      rw [em 87 (by omega), ← f3] at hb'; exact absurd hb' hbt
theorem z2_move {s a o c v : Int32} (hI : Inv2 i M) : wp_X7_move s a o c v M (fun r1 M1 => wp_X8_move s a o c v M1 (fun r2 M2 => r1 = r2 ∧ Inv2 (i + 1) M2)) := by
  obtain ⟨n, b, t, hN⟩ := hI.inv.2.1
  have hS := hI.2.2.1
  have eB : ∀ p : Nat, p < 4 → M (70 + 2 * p) 1 = M 87 p := fun p hp => by obtain ⟨z, hz, f1, f2, f3, f4⟩ := hS p hp; exact f3
  have eZ : ∀ p : Nat, p < 4 → M (70 + 2 * p) 2 = M 88 p := fun p hp => by obtain ⟨z, hz, f1, f2, f3, f4⟩ := hS p hp; rw [f1, f2]
  refine p_move2 hS.c (fun p q z1 z2 I J N hp hq ep eq e1 l1 e2 l2 eI eJ eN k1 k2 hG => ?_) (fun hG M1 h1 => ?_)
  · have em : ∀ c, c ≠ 71 + 2 * q → (upA M (71 + 2 * q) (va_cpy (M (71 + 2 * p)) (M (71 + 2 * q)) I J N)) c = M c := fun c hc => upA_o _ hc
    refine m_move2 (fun j hj => by rw [em 88 (by omega)]; exact hS.m j hj) (fun p' q' y1 y2 I' J' N' hp' hq' ep' eq' _ m1 _ m2 eI' eJ' eN' j1 j2 _ M2 d1 d2 d3 => ⟨rfl, ?_⟩) (fun g => absurd (by rw [em 87 (by omega), em 88 (by omega)]; exact mvG_congr eB eZ hG) g)
    have a1 := mv_inj (by omega) (by omega) ep ep'; have a2 := mv_inj (by omega) (by omega) eq eq'
    have a3 := mv_inj (by omega) (by omega) eI eI'; have a4 := mv_inj (by omega) (by omega) eJ eJ'; have a5 := mv_inj (by omega) (by omega) eN eN'
    subst a1; subst a2; subst a3; subst a4; subst a5
    have ed : ∀ c, c ≠ 89 → c ≠ 90 → M2 c = (upA M (71 + 2 * q') (va_cpy (M (71 + 2 * p')) (M (71 + 2 * q')) I' J' N')) c := fun c c1 c2 => d1 c (by simp [c1, c2])
    rw [em 89 (by omega)] at d2 d3
    refine inv2_sh hI (fun x x1 x2 x3 x4 x5 => by rw [ed x x4 x5, em x (by omega)]) (fun k hk => ?_)
    obtain ⟨y, hy, f1, f2, f3, f4⟩ := hS k hk
    refine ⟨y, hy, by rw [ed _ (by omega) (by omega), em _ (by omega)]; exact f1, by rw [ed _ (by omega) (by omega), em _ (by omega)]; exact f2, by rw [ed _ (by omega) (by omega), em _ (by omega), ed _ (by omega) (by omega), em _ (by omega)]; exact f3, fun x hx => ?_⟩
    rw [ed (71 + 2 * k) (by omega) (by omega)]
    by_cases e : k = q'
    · subst e
      rw [upA_same]
      by_cases g : J' ≤ x ∧ x < J' + N'
      · rw [pk_cpy_in g.1 g.2]
        obtain ⟨y2, hy2, r1, r2, r3, r4⟩ := hS p' hp
        have := d2 (x - J') (by omega)
        rw [show 40 * k + J' + (x - J') = 40 * k + x by omega] at this
        rw [this, r4 _ (by omega), show 40 * p' + (I' + (x - J')) = 40 * p' + I' + (x - J') by omega]
      · rw [pk_cpy_out (by omega), d3 _ (by omega)]; exact f4 x hx
    · rw [em _ (by omega), d3 _ (by omega)]; exact f4 x hx
  · have em : ∀ c, 79 ≤ c → M1 c = M c := fun c hc => h1 c (by simp <;> omega)
    refine m_move2 (fun j hj => by rw [em 88 (by omega)]; exact hS.m j hj) (fun p q z1 z2 I J N hp hq ep eq e1 l1 e2 l2 eI eJ eN k1 k2 hG2 => absurd (by rw [em 87 (by omega), em 88 (by omega)] at hG2; exact mvG_congr (fun p hp => (eB p hp).symm) (fun p hp => (eZ p hp).symm) hG2) hG) (fun _ M2 h2 => ⟨?_, hI.th h1 h2⟩)
    rw [em 87 (by omega)]; exact mvE_congr eB
theorem z2_voice {a c x : Int32} (hI : Inv2 i M) : wp_X7_voice a c x M (fun r1 M1 => wp_X8_voice a c x M1 (fun r2 M2 => r1 = r2 ∧ Inv2 (i + 1) M2)) := by
  obtain ⟨n, b, t, hN⟩ := hI.inv.2.1
  obtain ⟨n0, b0, t0, V0, h0, hA⟩ := hI.2.1
  have hn := hN.1.1
  have hK : ∀ q : Nat, q < n → KindOK (M (14 + q) 0) := fun q hq => by have := (hN.1.2.2.2.2.2.2.1 q hq).2; rwa [show 1 + 13 + q = 14 + q by omega] at this
  refine p_voice hN.1.cn hK (fun j k v hj ej hk ek hv ev M1 h1 => ?_) (fun g M1 h1 => ?_)
  · have ec : ∀ c, c ≠ 67 → c ≠ 68 → M1 c = M c := fun c c1 c2 => h1.1 c (by simp [c1, c2])
    have em : M1 80 = M 80 := ec 80 (by omega) (by omega)
    refine m_voice (by rw [em]; exact hN.2.1) (hN.km em) (fun j' k' v' hj' ej' hk' ek' hv' ev' M2 h2 => ?_) (fun g => absurd ⟨by rw [ej, nI_toInt (by omega)]; omega, by rw [ev, nI_toInt (by omega)]; omega⟩ g)
    have e1 : j' = j := (nI_eq (by omega) (by omega)).mp (ej'.symm.trans ej)
    have e2 : v' = v := (nI_eq (by omega) (by omega)).mp (ev'.symm.trans ev)
    subst e1; subst e2
    obtain ⟨f0, f1, f2⟩ := hN.2.2.2.2.2.2 j' hj
    rw [em] at ek'
    rw [show 1 + 13 + j' = 14 + j' by omega] at f0 f1
    rw [ek, ek'] at f0
    have e3 : k = k' := (nI_eq (by omega) (by omega)).mp f0
    subst e3
    have es : ∀ c, c ≠ 67 → c ≠ 68 → c ≠ 79 → c ≠ 91 → M2 c = M c := fun c c1 c2 c3 c4 => by rw [h2.1 c (by simp [c3, c4])]; exact ec c c1 c2
    refine ⟨by rw [em, f1], hI.1.keep (es _ (by omega) (by omega) (by omega) (by omega)), ⟨n0, b0, t0, V0, h0, hA.keep (fun c c1 c2 _ _ => es c (by omega) (by omega) (by omega) (by omega)) (es _ (by omega) (by omega) (by omega) (by omega))⟩, hI.2.2.1.keep (fun c c1 c2 => es c (by omega) (by omega) (by omega) (by omega)) (es _ (by omega) (by omega) (by omega) (by omega)) (es _ (by omega) (by omega) (by omega) (by omega)) (es _ (by omega) (by omega) (by omega) (by omega)), ⟨(vL k v').length, by have := vL_len k v'; omega, by rw [h2.1 67 rfl]; exact h1.2.1, h2.2.1, fun q hq => ?_⟩, hI.2.2.2.2.keep (es _ (by omega) (by omega) (by omega) (by omega)) (h2.2.2.2.2.2.2.1.trans (by rw [ec 79 (by omega) (by omega)])) (h2.2.2.2.2.2.2.2.trans (by rw [ec 79 (by omega) (by omega)])) (fun c c1 c2 _ _ => es c (by omega) (by omega) (by omega) (by omega)) (es _ (by omega) (by omega) (by omega) (by omega))⟩
    rw [h2.1 68 rfl, h1.2.2.2.2.2 q hq, h2.2.2.2.2.2.1 q hq]
  · have em : M1 80 = M 80 := h1 80 rfl
    exact m_voice (by rw [em]; exact hN.2.1) (hN.km em) (fun j k v hj ej hk ek hv ev => absurd ⟨by rw [ej, nI_toInt (by omega)]; omega, by rw [ev, nI_toInt (by omega)]; omega⟩ g) (fun _ M2 h2 => ⟨rfl, hI.th h1 h2⟩)
end ZE
