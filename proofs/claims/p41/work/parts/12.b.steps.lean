section ZT
variable {i : Nat} {M : Mem}
theorem z_then {a b c : Int32} (hI : Inv i M) : wp_X7_then a b c M (fun _ M1 => wp_X8_then a b c M1 (fun _ M2 => Inv (i + 1) M2)) := by
  obtain ⟨n, x, t, hN⟩ := hI.2.1
  exact p_then hN.1.cn (fun r M1 h1 => m_then (by rw [h1 80 rfl]; exact hN.2.1) (fun r2 M2 h2 => inv_th hI hN h1 h2))
theorem z_when {a : Int32} (hI : Inv i M) : wp_X7_when a M (fun _ M1 => wp_X8_when a M1 (fun _ M2 => Inv (i + 1) M2)) := by
  obtain ⟨n, x, t, hN⟩ := hI.2.1
  exact p_when hN.1.cn (fun r M1 h1 => m_when (by rw [h1 80 rfl]; exact hN.2.1) (fun r2 M2 h2 => inv_th hI hN h1 h2))
theorem z_ended {a : Int32} (hI : Inv i M) : wp_X7_ended a M (fun _ M1 => wp_X8_ended a M1 (fun _ M2 => Inv (i + 1) M2)) := by
  obtain ⟨n, x, t, hN⟩ := hI.2.1
  exact p_ended hN.1.cn (fun r M1 h1 => m_ended (by rw [h1 80 rfl]; exact hN.2.1) (fun r2 M2 h2 => inv_th hI hN h1 h2))
theorem z_start {a b : Int32} (hI : Inv i M) : wp_X7_start a b M (fun _ M1 => wp_X8_start a b M1 (fun _ M2 => Inv (i + 1) M2)) := by
  obtain ⟨n, x, t, hN⟩ := hI.2.1
  exact p_start hN.1.cn (fun r M1 h1 => m_start (by rw [h1 80 rfl]; exact hN.2.1) (fun r2 M2 h2 => inv_th hI hN h1 h2))
theorem z_pace {a b : Int32} (hI : Inv i M) : wp_X7_pace a b M (fun _ M1 => wp_X8_pace a b M1 (fun _ M2 => Inv (i + 1) M2)) := by
  obtain ⟨n, x, t, hN⟩ := hI.2.1
  exact p_pace hN.1.cn (fun r M1 h1 => m_pace (by rw [h1 80 rfl]; exact hN.2.1) (fun r2 M2 h2 => inv_th hI hN h1 h2))
theorem z_hand {a b : Int32} (hI : Inv i M) : wp_X7_hand a b M (fun _ M1 => wp_X8_hand a b M1 (fun _ M2 => Inv (i + 1) M2)) := by
  obtain ⟨n, x, t, hN⟩ := hI.2.1
  exact p_hand hN.1.cn (fun r M1 h1 => m_hand (by rw [h1 80 rfl]; exact hN.2.1) (fun r2 M2 h2 => inv_th hI hN h1 h2))
theorem z_first {a b : Int32} (hI : Inv i M) : wp_X7_first a b M (fun _ M1 => wp_X8_first a b M1 (fun _ M2 => Inv (i + 1) M2)) := by
  obtain ⟨n, x, t, hN⟩ := hI.2.1
  exact p_first hN.1.cn (fun r M1 h1 => m_first (by rw [h1 80 rfl]; exact hN.2.1) (fun r2 M2 h2 => inv_th hI hN h1 h2))
theorem z_last {a : Int32} (hI : Inv i M) : wp_X7_last a M (fun _ M1 => wp_X8_last a M1 (fun _ M2 => Inv (i + 1) M2)) := by
  obtain ⟨n, x, t, hN⟩ := hI.2.1
  exact p_last hN.1.cn (fun r M1 h1 => m_last (by rw [h1 80 rfl]; exact hN.2.1) (fun r2 M2 h2 => inv_th hI hN h1 h2))
theorem z_sharp {a b : Int32} (hI : Inv i M) : wp_X7_sharp a b M (fun _ M1 => wp_X8_sharp a b M1 (fun _ M2 => Inv (i + 1) M2)) := by
  obtain ⟨n, x, t, hN⟩ := hI.2.1
  exact p_sharp hN.1.cn (fun r M1 h1 => m_sharp (by rw [h1 80 rfl]; exact hN.2.1) (fun r2 M2 h2 => inv_th hI hN h1 h2))
theorem z_off {a : Int32} (hI : Inv i M) : wp_X7_off a M (fun _ M1 => wp_X8_off a M1 (fun _ M2 => Inv (i + 1) M2)) := by
  obtain ⟨n, x, t, hN⟩ := hI.2.1
  exact p_off hN.1.cn (fun r M1 h1 => m_off (by rw [h1 80 rfl]; exact hN.2.1) (fun r2 M2 h2 => inv_th hI hN h1 h2))
theorem z_chain {a : Int32} (hI : Inv i M) : wp_X7_chain a M (fun _ M1 => wp_X8_chain a M1 (fun _ M2 => Inv (i + 1) M2)) := by
  obtain ⟨n, x, t, hN⟩ := hI.2.1
  exact p_chain hN.1.cn (fun r M1 h1 => m_chain (by rw [h1 80 rfl]; exact hN.2.1) (fun r2 M2 h2 => inv_th hI hN h1 h2))
theorem z_fee {a : Int32} (hI : Inv i M) : wp_X7_fee a M (fun _ M1 => wp_X8_fee a M1 (fun _ M2 => Inv (i + 1) M2)) := by
  obtain ⟨n, x, t, hN⟩ := hI.2.1
  exact p_fee hN.1.cn (fun r M1 h1 => m_fee (by rw [h1 80 rfl]; exact hN.2.1) (fun r2 M2 h2 => inv_th hI hN h1 h2))
theorem z_free (hI : Inv i M) : wp_X7_free  M (fun _ M1 => wp_X8_free  M1 (fun _ M2 => Inv (i + 1) M2)) := by
  obtain ⟨n, x, t, hN⟩ := hI.2.1
  exact p_free hN.1.cn (fun r M1 h1 => m_free (by rw [h1 80 rfl]; exact hN.2.1) (fun r2 M2 h2 => inv_th hI hN h1 h2))
theorem z_odds {a b c : Int32} (hI : Inv i M) : wp_X7_odds a b c M (fun _ M1 => wp_X8_odds a b c M1 (fun _ M2 => Inv (i + 1) M2)) := by
  obtain ⟨n, x, t, hN⟩ := hI.2.1
  exact p_odds hN.1.cn (fun r M1 h1 => m_odds (by rw [h1 80 rfl]; exact hN.2.1) (fun r2 M2 h2 => inv_th hI hN h1 h2))
theorem z_ofQuarrel {a b : Int32} (hI : Inv i M) : wp_X7_ofQuarrel a b M (fun _ M1 => wp_X8_ofQuarrel a b M1 (fun _ M2 => Inv (i + 1) M2)) := by
  obtain ⟨n, x, t, hN⟩ := hI.2.1
  exact p_ofQuarrel hN.1.cn (fun r M1 h1 => m_ofQuarrel (by rw [h1 80 rfl]; exact hN.2.1) (fun r2 M2 h2 => inv_th hI hN h1 h2))
theorem z_law {a b c d : Int32} (hI : Inv i M) : wp_X7_law a b c d M (fun _ M1 => wp_X8_law a b c d M1 (fun _ M2 => Inv (i + 1) M2)) := by
  obtain ⟨n, x, t, hN⟩ := hI.2.1
  exact p_law hN.1.cn (fun r M1 h1 => m_law (by rw [h1 80 rfl]; exact hN.2.1) (fun r2 M2 h2 => inv_th hI hN h1 h2))
theorem z_count {a : Int32} (hI : Inv i M) : wp_X7_count a M (fun _ M1 => wp_X8_count a M1 (fun _ M2 => Inv (i + 1) M2)) := by
  obtain ⟨n, x, t, hN⟩ := hI.2.1
  exact p_count hN.1.cn (fun r M1 h1 => m_count (by rw [h1 80 rfl]; exact hN.2.1) (fun r2 M2 h2 => inv_th hI hN h1 h2))
theorem z_told {a : Int32} (hI : Inv i M) : wp_X7_told a M (fun _ M1 => wp_X8_told a M1 (fun _ M2 => Inv (i + 1) M2)) := by
  obtain ⟨n, x, t, hN⟩ := hI.2.1
  exact p_told (fun r M1 h1 => m_told (fun r2 M2 h2 => inv_th hI hN h1 h2))
theorem z_sparks {a b : Int32} (hI : Inv i M) : wp_X7_sparks a b M (fun _ M1 => wp_X8_sparks a b M1 (fun _ M2 => Inv (i + 1) M2)) := by
  obtain ⟨n, x, t, hN⟩ := hI.2.1
  exact p_sparks hN.1.cn hI.2.2.1.c (fun r M1 h1 => m_sparks (by rw [h1 80 rfl]; exact hN.2.1) (fun j hj => by rw [h1 88 rfl]; exact hI.2.2.1.m j hj) (fun r2 M2 h2 => inv_th hI hN h1 h2))
theorem z_judge {a : Int32} (hI : Inv i M) : wp_X7_judge a M (fun _ M1 => wp_X8_judge a M1 (fun _ M2 => Inv (i + 1) M2)) := by
  obtain ⟨n, x, t, hN⟩ := hI.2.1
  exact p_judge hN.1.cn hI.2.2.1.c (fun r M1 h1 => m_judge (by rw [h1 80 rfl]; exact hN.2.1) (fun j hj => by rw [h1 88 rfl]; exact hI.2.2.1.m j hj) (fun r2 M2 h2 => inv_th hI hN h1 h2))
theorem z_set {a b : Int32} (hI : Inv i M) : wp_X7_set a b M (fun _ M1 => wp_X8_set a b M1 (fun _ M2 => Inv (i + 1) M2)) := by
  obtain ⟨n, x, t, hN⟩ := hI.2.1
  exact p_set hN.1.cn (fun r M1 h1 => m_set (by rw [h1.2.1 80 rfl]; exact hN.2.1) (fun r2 M2 h2 => inv_n0 hI hN h1 h2))
theorem setIn_congr {f g : Nat → Int32} {a : Int32} : ∀ m : Nat, (∀ k, k < m → f k = g k) → setIn f a m = setIn g a m
  | 0, _ => rfl
  | m + 1, h => by
    unfold setIn
    rw [setIn_congr m (fun k hk => h k (by omega)), h m (by omega)]
theorem z_inArea {a : Int32} (hI : Inv i M) : wp_X7_inArea a M (fun r1 M1 => wp_X8_inArea a M1 (fun r2 M2 => r1 = r2 ∧ Inv (i + 1) M2)) := by
  obtain ⟨n, x, t, hN⟩ := hI.2.1
  refine p_inArea hN.1.cn (fun g1 g2 => m_inArea hN.2.1 (fun _ _ => ⟨setIn_congr n (fun k hk => ?_), inv_th hI hN St.rf St.rf⟩) (fun g => absurd ⟨g1, g2⟩ g)) (fun g M1 h1 => m_inArea (by rw [h1 80 rfl]; exact hN.2.1) (fun g1 g2 => absurd ⟨g1, g2⟩ g) (fun _ M2 h2 => ⟨rfl, inv_th hI hN h1 h2⟩))
  exact (hN.2.2.2.2.2.2 k hk).2.2
theorem z_days {a : Int32} (hI : Inv i M) : wp_X7_days a M (fun _ M1 => wp_X8_days a M1 (fun _ M2 => Inv (i + 1) M2)) := by
  obtain ⟨n, x, t, hN⟩ := hI.2.1
  obtain ⟨e1, e2, e3, e4, e5, e6⟩ := hN.b5
  have hn := hN.1.1
  by_cases hc : 1 ≤ a.toInt ∧ a.toInt ≤ 60 ∧ M 12 6 + a ≤ 9999
  · refine p_days hN.1.cn (fun N n1 n60 eN _ r M1 h1 => ?_) (fun g => absurd hc g)
    have em : M1 80 = M 80 := h1.2.1 80 rfl
    refine m_days (by rw [em]; exact hN.2.1) (fun N' n1' n60' eN' _ r2 M2 h2 => ?_) (fun g => absurd (by rw [em, e6]; exact hc) g)
    have : N' = N := (nI_eq (by omega) (by omega)).mp (eN'.symm.trans eN)
    subst this
    rw [em, e3, e4, e5] at h2
    rw [e1, e2] at h1
    exact inv_neutral hI hN hN.1.2.1 hN.1.2.2.1 h1 h2
  · refine p_days hN.1.cn (fun N n1 n60 eN h9 r M1 h1 => absurd ⟨by rw [eN, nI_toInt (by omega)]; omega, by rw [eN, nI_toInt (by omega)]; omega, h9⟩ hc) (fun _ r M1 h1 => ?_)
    have em : M1 80 = M 80 := h1 80 rfl
    exact m_days (by rw [em]; exact hN.2.1) (fun N n1 n60 eN h9 r M2 h2 => absurd ⟨by rw [eN, nI_toInt (by omega)]; omega, by rw [eN, nI_toInt (by omega)]; omega, by rw [em, e6] at h9; exact h9⟩ hc) (fun _ r2 M2 h2 => inv_th hI hN h1 h2)
theorem z_loose {a : Int32} (hI : Inv i M) : wp_X7_loose a M (fun _ M1 => wp_X8_loose a M1 (fun _ M2 => Inv (i + 1) M2)) := by
  obtain ⟨n, x, t, hN⟩ := hI.2.1
  obtain ⟨e1, e2, e3, e4, e5, e6⟩ := hN.b5
  have hn := hN.1.1
  by_cases hc : 1 ≤ a.toInt ∧ a.toInt ≤ 40 ∧ M 12 6 + a ≤ 9999
  · refine p_loose hN.1.cn (fun N n1 n60 eN _ r M1 h1 => ?_) (fun g => absurd hc g)
    have em : M1 80 = M 80 := h1.2.1 80 rfl
    refine m_loose (by rw [em]; exact hN.2.1) (fun N' n1' n60' eN' _ r2 M2 h2 => ?_) (fun g => absurd (by rw [em, e6]; exact hc) g)
    have : N' = N := (nI_eq (by omega) (by omega)).mp (eN'.symm.trans eN)
    subst this
    rw [em, e3, e4, e5] at h2
    rw [e1, e2] at h1
    exact inv_neutral hI hN hN.1.2.1 hN.1.2.2.1 h1 h2
  · refine p_loose hN.1.cn (fun N n1 n60 eN h9 r M1 h1 => absurd ⟨by rw [eN, nI_toInt (by omega)]; omega, by rw [eN, nI_toInt (by omega)]; omega, h9⟩ hc) (fun _ r M1 h1 => ?_)
    have em : M1 80 = M 80 := h1 80 rfl
    exact m_loose (by rw [em]; exact hN.2.1) (fun N n1 n60 eN h9 r M2 h2 => absurd ⟨by rw [eN, nI_toInt (by omega)]; omega, by rw [eN, nI_toInt (by omega)]; omega, by rw [em, e6] at h9; exact h9⟩ hc) (fun _ r2 M2 h2 => inv_th hI hN h1 h2)
theorem z_seed {a : Int32} (hI : Inv i M) : wp_X7_seed a M (fun r1 M1 => wp_X8_seed a M1 (fun r2 M2 => r1 = r2 ∧ Inv (i + 1) M2)) := by
  obtain ⟨n, x, t, hN⟩ := hI.2.1
  obtain ⟨e1, e2, e3, e4, e5, e6⟩ := hN.b5
  refine p_seed hN.1.cn (fun M1 h1 => ?_)
  have em : M1 80 = M 80 := h1.2.1 80 rfl
  refine m_seed (by rw [em]; exact hN.2.1) (fun M2 h2 => ⟨by rw [em, e5], ?_⟩)
  rw [em, e3, e4] at h2
  rw [e1, e2] at h1
  exact inv_neutral hI hN hN.1.2.1 hN.1.2.2.1 h1 h2
theorem z_check (hI : Inv i M) : wp_X7_check M (fun _ M1 => wp_X8_check M1 (fun _ M2 => Inv (i + 1) M2)) := by
  obtain ⟨n, x, t, hN⟩ := hI.2.1
  obtain ⟨e1, e2, e3, e4, e5, e6⟩ := hN.b5
  refine p_check hN.1.2.2.1 hN.1.cn e2 (fun r M1 h1 => ?_)
  have em : M1 80 = M 80 := h1.2.1 80 rfl
  refine m_check hN.1.2.2.1 (by rw [em]; exact hN.2.1) (by rw [em]; exact e4) (fun r2 M2 h2 => ?_)
  rw [em, e3, e5] at h2
  rw [e1] at h1
  exact inv_neutral (t := 0) hI hN hN.1.2.1 (by omega) h1 h2
theorem z_tell {a : Int32} (hI : Inv i M) : wp_X7_tell a M (fun r1 M1 => wp_X8_tell a M1 (fun r2 M2 => r1 = r2 ∧ Inv (i + 1) M2)) := by
  obtain ⟨n, x, t, hN⟩ := hI.2.1
  obtain ⟨e1, e2, e3, e4, e5, e6⟩ := hN.b5
  refine p_tell hN.1.2.2.1 hN.1.cn e2 (fun ht M1 h1 => ?_) (fun ht M1 h1 => ?_)
  · have em : M1 80 = M 80 := h1.2.1 80 rfl
    refine m_tell hN.1.2.2.1 (by rw [em]; exact hN.2.1) (by rw [em]; exact e4) (fun _ M2 h2 => ⟨rfl, ?_⟩) (fun g => by omega)
    rw [em, e3, e5] at h2
    rw [e1] at h1
    exact inv_neutral hI hN hN.1.2.1 (by omega) h1 h2
  · have em : M1 80 = M 80 := h1 80 rfl
    exact m_tell hN.1.2.2.1 (by rw [em]; exact hN.2.1) (by rw [em]; exact e4) (fun g => by omega) (fun _ M2 h2 => ⟨rfl, inv_th hI hN h1 h2⟩)
theorem z_feed {w : Int64} {a : Int32} (hI : Inv i M) : wp_X7_feed w a M (fun r1 M1 => wp_X8_feed w a M1 (fun r2 M2 => r1 = r2 ∧ Inv (i + 1) M2)) := by
  obtain ⟨n, x, t, hN⟩ := hI.2.1
  obtain ⟨e1, e2, e3, e4, e5, e6⟩ := hN.b5
  have hb := hN.1.2.1
  refine p_feed hb hN.1.cn e1 (fun N n1 n8 eN hle M1 h1 => ?_) (fun g M1 h1 => ?_) (fun N n1 n8 eN hlt M1 h1 => ?_)
  · have em : M1 80 = M 80 := h1.2.1 80 rfl
    refine m_feed hb (by rw [em]; exact hN.2.1) (by rw [em]; exact e3) (fun N' n1' n8' eN' hle' M2 h2 => ?_) (fun g => absurd (by rw [eN, nI_toInt (by omega)]; omega) g) (fun N' n1' n8' eN' hlt => ?_)
    · have : N' = N := (nI_eq (by omega) (by omega)).mp (eN'.symm.trans eN)
      subst this
      refine ⟨rfl, ?_⟩
      rw [em, e4, e5] at h2
      rw [e2] at h1
      exact inv_neutral hI hN (by omega) hN.1.2.2.1 h1 h2
    · have : N' = N := (nI_eq (by omega) (by omega)).mp (eN'.symm.trans eN)
      omega
  · have em : M1 80 = M 80 := h1 80 rfl
    exact m_feed hb (by rw [em]; exact hN.2.1) (by rw [em]; exact e3) (fun N n1 n8 eN _ M2 _ => absurd (by rw [eN, nI_toInt (by omega)]; omega) g) (fun _ M2 h2 => ⟨rfl, inv_th hI hN h1 h2⟩) (fun N n1 n8 eN _ M2 _ => absurd (by rw [eN, nI_toInt (by omega)]; omega) g)
  · have em : M1 80 = M 80 := h1 80 rfl
    refine m_feed hb (by rw [em]; exact hN.2.1) (by rw [em]; exact e3) (fun N' n1' n8' eN' hle' M2 _ => ?_) (fun g => absurd (by rw [eN, nI_toInt (by omega)]; omega) g) (fun N' n1' n8' eN' hlt' M2 h2 => ⟨rfl, inv_th hI hN h1 h2⟩)
    have : N' = N := (nI_eq (by omega) (by omega)).mp (eN'.symm.trans eN)
    omega
theorem z_text {a : Int32} (hI : Inv i M) : wp_X7_text a M (fun _ M1 => wp_X8_text a M1 (fun _ M2 => Inv (i + 1) M2)) := by
  obtain ⟨n, x, t, hN⟩ := hI.2.1
  obtain ⟨e1, e2, e3, e4, e5, e6⟩ := hN.b5
  have hb := hN.1.2.1
  by_cases hc : 0 ≤ a.toInt ∧ a.toInt ≤ 1
  · refine p_text hb hN.1.cn e1 (fun _ _ r M1 h1 => ?_) (fun g => absurd hc g)
    have em : M1 80 = M 80 := h1.2.1 80 rfl
    refine m_text hb (by rw [em]; exact hN.2.1) (by rw [em]; exact e3) (fun _ _ r2 M2 h2 => ?_) (fun g => absurd hc g)
    rw [em, e4, e5] at h2
    rw [e2] at h1
    exact inv_neutral (b := 0) hI hN (by omega) hN.1.2.2.1 h1 h2
  · refine p_text hb hN.1.cn e1 (fun g1 g2 => absurd ⟨g1, g2⟩ hc) (fun _ r M1 h1 => ?_)
    have em : M1 80 = M 80 := h1 80 rfl
    exact m_text hb (by rw [em]; exact hN.2.1) (by rw [em]; exact e3) (fun g1 g2 => absurd ⟨g1, g2⟩ hc) (fun _ r2 M2 h2 => inv_th hI hN h1 h2)
theorem z_edges {a : Int32} (hI : Inv i M) : wp_X7_edges a M (fun r1 M1 => wp_X8_edges a M1 (fun r2 M2 => r1 = r2 ∧ Inv (i + 1) M2)) := by
  obtain ⟨n, x, t, hN⟩ := hI.2.1
  have hn := hN.1.1
  have hS := hI.2.2.1
  have hm : ∀ {M1 : Mem}, (∀ c, 87 ≤ c → M1 c = M c) → SMc M1 := fun h j hj => by rw [h 88 (by omega)]; exact hS.m j hj
  have inj : ∀ {p q : Nat} {v : Int32}, p < 4 → q < 4 → v = nI p → v = nI q → q = p := fun hp hq e1 e2 => (nI_eq (by omega) (by omega)).mp (e2.symm.trans e1)
  refine p_edges hN.1.cn hS.c (fun j z hj ej ez hz hb M1 h1 => ?_) (fun g M1 h1 => ?_) (fun j hj ej hb M1 h1 => ?_)
  · have em : ∀ c, 79 ≤ c → M1 c = M c := fun c hc => h1.2.1 c (by simp <;> omega)
    obtain ⟨z', hz', f1, f2, f3, f4⟩ := hS j hj
    have hzz : z' = z := (nI_eq (by omega) (by omega)).mp (f1.symm.trans ez)
    subst hzz
    refine m_edges (by rw [em 80 (by omega)]; exact hN.2.1) (hm (fun c hc => em c (by omega))) (fun j' z2 hj' ej' ez' hz2 hb' M2 h2 => ?_) (fun g => absurd (by rw [ej, nI_toInt (by omega)]; omega) g) (fun j' hj' ej' hb' => ?_)
    · have := inj hj hj' ej ej'; subst this
      have hz3 : z2 = z' := (nI_eq (by omega) (by omega)).mp (ez'.symm.trans (by rw [em 88 (by omega)]; exact f2))
      subst hz3
      refine ⟨?_, inv_n0 hI hN h1 h2⟩
      rw [em 89 (by omega), edgeN_congr (min n z2) (fun k hk => f4 k (by omega))]
    · have := inj hj hj' ej ej'; subst this
      rw [em 87 (by omega), ← f3] at hb'
      exact absurd hb' hb
  · have em : ∀ c, 79 ≤ c → M1 c = M c := fun c hc => h1 c (by simp <;> omega)
    exact m_edges (by rw [em 80 (by omega)]; exact hN.2.1) (hm (fun c hc => em c (by omega))) (fun j z hj ej => absurd (by rw [ej, nI_toInt (by omega)]; omega) g) (fun _ M2 h2 => ⟨rfl, inv_th hI hN h1 h2⟩) (fun j hj ej => absurd (by rw [ej, nI_toInt (by omega)]; omega) g)
  · have em : ∀ c, 79 ≤ c → M1 c = M c := fun c hc => h1 c (by simp <;> omega)
    obtain ⟨z', hz', f1, f2, f3, f4⟩ := hS j hj
    refine m_edges (by rw [em 80 (by omega)]; exact hN.2.1) (hm (fun c hc => em c (by omega))) (fun j' z2 hj' ej' ez' hz2 hb' M2 h2 => ?_) (fun g => absurd (by rw [ej, nI_toInt (by omega)]; omega) g) (fun j' hj' ej' hb' M2 h2 => ⟨rfl, inv_th hI hN h1 h2⟩)
    have := inj hj hj' ej ej'; subst this
    rw [em 87 (by omega), ← f3] at hb'
    exact absurd hb hb'
theorem z_trace {a : Int32} (hI : Inv i M) : wp_X7_trace a M (fun r1 M1 => wp_X8_trace a M1 (fun r2 M2 => r1 = r2 ∧ Inv (i + 1) M2)) := by
  obtain ⟨n, x, t, hN⟩ := hI.2.1
  obtain ⟨z, hz, e1, e2, e3⟩ := hI.2.2.2.1
  refine p_trace hz e1 (fun j hj ej => ?_) (fun g M1 h1 => ?_)
  · refine m_trace hz e2 (fun j' hj' ej' => ⟨?_, inv_th hI hN St.rf St.rf⟩) (fun g => absurd (by rw [ej, nI_toInt (by omega)]; omega) g)
    have : j' = j := (nI_eq (by omega) (by omega)).mp (ej'.symm.trans ej)
    subst this; exact e3 j' hj
  · have em : ∀ c, 79 ≤ c → M1 c = M c := fun c hc => h1 c (by simp <;> omega)
    exact m_trace hz (by rw [em 79 (by omega)]; exact e2) (fun j hj ej => absurd (by rw [ej, nI_toInt (by omega)]; omega) g) (fun _ M2 h2 => ⟨rfl, inv_th hI hN h1 h2⟩)
end ZT
