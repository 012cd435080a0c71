section Z4
variable {i n : Nat} {M : Mem} {K : Int32 → Mem → Prop}
theorem z4_as {a c : Int32} (hI : Inv3 i M) : wp_X7_as a c M (fun r1 M1 => wp_X8_as a c M1 (fun r2 M2 => r1 = r2 ∧ Inv3 (i + 1) M2)) := by
  obtain ⟨n, b, t, hN⟩ := hI.inv.2.1
  have hn := hN.1.1
  have hK : ∀ q : Nat, q < n → KindOK (M (14 + q) 0) := fun q hq => by have := (hN.1.2.2.2.2.2.2.1 q hq).2; rwa [show 1 + 13 + q = 14 + q by omega] at this
  refine pe_as hN.1.cn hI.1.1 hK (fun j k v hj ej hk ek hv ev => ⟨fun hy => ?_, fun hno M1 h1 => ?_⟩) (fun g M1 h1 => ?_)
  · refine me_as hN.2.1 (hN.km rfl) (fun j' k' v' hj' ej' hk' ek' hv' ev' => ⟨fun _ => ⟨?_, hI.th (PC.of St.rf) (PM.of St.rf)⟩, fun hno => ?_⟩) (fun g => absurd ⟨by rw [ej, nI_toInt (by omega)]; omega, by rw [ev, nI_toInt (by omega)]; omega⟩ g)
    · have : j' = j := (nI_eq (by omega) (by omega)).mp (ej'.symm.trans ej)
      subst this
      have := (hN.2.2.2.2.2.2 j' hj).2.1
      rw [show 1 + 13 + j' = 14 + j' by omega] at this; exact this
    · have e1 : j' = j := (nI_eq (by omega) (by omega)).mp (ej'.symm.trans ej)
      have e2 : v' = v := (nI_eq (by omega) (by omega)).mp (ev'.symm.trans ev)
      subst e1; subst e2
      have f0 := (hN.2.2.2.2.2.2 j' hj).1
      rw [show 1 + 13 + j' = 14 + j' by omega, ek, ek'] at f0
      have e3 : k = k' := (nI_eq (by omega) (by omega)).mp f0
      subst e3
      rw [hy] at hno; cases hno
  · have em : M1 80 = M 80 := h1.1 80 rfl
    refine me_as (by rw [em]; exact hN.2.1) (hN.km em) (fun j' k' v' hj' ej' hk' ek' hv' ev' => ⟨fun hy => ?_, fun _ M2 h2 => ⟨rfl, hI.th h1 h2⟩⟩) (fun g => absurd ⟨by rw [ej, nI_toInt (by omega)]; omega, by rw [ev, nI_toInt (by omega)]; omega⟩ g)
    have e1 : j' = j := (nI_eq (by omega) (by omega)).mp (ej'.symm.trans ej)
    have e2 : v' = v := (nI_eq (by omega) (by omega)).mp (ev'.symm.trans ev)
    subst e1; subst e2
    have f0 := (hN.2.2.2.2.2.2 j' hj).1
    rw [em] at ek'
    rw [show 1 + 13 + j' = 14 + j' by omega, ek, ek'] at f0
    have e3 : k = k' := (nI_eq (by omega) (by omega)).mp f0
    subst e3
    rw [hno] at hy; cases hy
  · have em : M1 80 = M 80 := h1.1 80 rfl
    exact me_as (by rw [em]; exact hN.2.1) (hN.km em) (fun j k v hj ej hk ek hv ev => absurd ⟨by rw [ej, nI_toInt (by omega)]; omega, by rw [ev, nI_toInt (by omega)]; omega⟩ g) (fun _ M2 h2 => ⟨rfl, hI.th h1 h2⟩)
theorem z4_become {a km : Int32} (hI : Inv3 i M) : wp_X7_become a km M (fun r1 M1 => wp_X8_become a km M1 (fun r2 M2 => r1 = r2 ∧ Inv3 (i + 1) M2)) := by
  obtain ⟨n, b, t, V, h, hS⟩ := hI.2.1
  have hn := hS.rv.1
  have hN := hS.nw
  refine pe_become hN.1.cn (fun j hj ej g1 g2 => ?_) (fun g M1 h1 => ?_)
  · have em : ∀ c, c ≠ 14 + j → (up (up M (14 + j) 0 (km / 10)) (14 + j) 1 (km - km / 10 * 10)) c = M c := fun c hc => by rw [up_o _ hc, up_o _ hc]
    refine me_become (by rw [em 80 (by omega)]; exact hN.2.1) (fun j' hj' ej' _ _ => ?_) (fun g => absurd ⟨by rw [ej, nI_toInt (by omega)]; omega, g1, g2⟩ g)
    have : j' = j := (nI_eq (by omega) (by omega)).mp (ej'.symm.trans ej)
    subst this
    obtain ⟨x, hx, rfl⟩ := nat_of (x := km) 69 g1 g2 (by decide)
    rw [show (10 : Int32) = nI 10 from rfl, pk_rem (by omega) (by omega) (by omega), pk_div (by omega) (by omega) (by omega)]
    obtain ⟨q1, q2⟩ := one_sa (k := 0) (s := 11) (x := x / 10) hS hj (by unfold FS; omega) (by omega) rfl
    obtain ⟨q3, q4⟩ := one_sa (k := 1) (s := 12) (x := x % 10) q2 hj (by unfold FS; omega) (by omega) rfl
    have hM : (up (up (up (up M (14 + j') 0 (nI (x / 10))) (14 + j') 1 (nI (x % 10))) 80 (12 + 7 * j') (nI (x % 10))) 80 (11 + 7 * j') (nI (x / 10))) = (up (up (up (up M (14 + j') 0 (nI (x / 10))) 80 (11 + 7 * j') (nI (x / 10))) (14 + j') 1 (nI (x % 10))) 80 (12 + 7 * j') (nI (x % 10))) := by
      funext c k
      unfold up
      by_cases c1 : c = 80
      · subst c1
        have n1 : ¬ (80 = 14 + j') := by omega
        by_cases k1 : k = 11 + 7 * j'
        · have k2 : ¬ k = 12 + 7 * j' := by omega
          simp [n1, k1]
        · by_cases k2 : k = 12 + 7 * j'
          · simp [n1, k2]
          · simp [n1, k1, k2]
      · simp [c1]
    rw [hM]
    have e : ∀ c, (c < 14 ∨ 22 < c) → c ≠ 80 → (up (up (up (up M (14 + j') 0 (nI (x / 10))) 80 (11 + 7 * j') (nI (x / 10))) (14 + j') 1 (nI (x % 10))) 80 (12 + 7 * j') (nI (x % 10))) c = M c := fun c c1 c2 => by rw [up_o _ c2, up_o _ (by omega), up_o _ c2, up_o _ (by omega)]
    exact ⟨by rw [up_cell (by omega), up_cell (by omega)]; exact q1, hI.rest (fun c hc => e c (by simp at hc; omega) (by simp at hc; omega)) (by rw [e 79 (by omega) (by omega)]) (by rw [e 79 (by omega) (by omega)]) (by rw [e 79 (by omega) (by omega)]) (e 78 (by omega) (by omega)) (e 83 (by omega) (by omega)) q4⟩
  · have em : M1 80 = M 80 := h1.1 80 rfl
    exact me_become (by rw [em]; exact hN.2.1) (fun j hj ej g1 g2 => absurd ⟨by rw [ej, nI_toInt (by omega)]; omega, g1, g2⟩ g) (fun _ M2 h2 => ⟨rfl, hI.th h1 h2⟩)
theorem me_chain {a : Int32} (hR : RO n (M 80)) (hk : (0 ≤ a.toInt ∧ a.toInt < n) → ∀ r, K r M) (hb : ¬ (0 ≤ a.toInt ∧ a.toInt < n) → ∀ M1, PM 1 M M1 → K (erA 1).1 M1) : wp_X8_chain a M K := by
  have hn := hR.1
  unfold wp_X8_chain
  refine q8n hR.1 hR.2.1 (fun j hj ej => ?_) (fun g => e8A (i := 1) (by omega) (by omega) (by decide) St.rf (hb g))
  have hk2 := hk (by rw [ej, nI_toInt (by omega)]; omega)
  subst ej
  rw [nI_1]
  refine loopNA (L := fun k a i M' => wp_X8_chain_L21 K (nI j) k a i M') n (fun _ _ M' => M' = M) ?_ (j + 1) (by omega) rfl
  intro i a M' k hi e ih
  subst e
  show wp_X8_chain_l21 K (nI j) (wp_X8_chain_L21 K (nI j) k) a (nI i) M'
  unfold wp_X8_chain_l21
  rw [hR.2.1]
  refine ⟨fun _ => hk2 _, fun q => ?_⟩
  have hi2 : i < n := lt_of_nI q (by omega) (by omega)
  rw [nI_1]
  have nx : ∀ a', wp_X8_chain_L21 K (nI j) k a' (nI (i + 1)) M' := fun a' => ih _ _ hi2 rfl
  exact m_its 4 (by omega) (m_isOver (by omega) (fun _ => b1b (nx _)) (fun _ => b0b ⟨fun _ => nx _, fun _ => ⟨fun _ => nx _, fun _ => ⟨fun _ => nx _, fun _ => nx _⟩⟩⟩))
theorem z4_chain {a : Int32} (hI : Inv3 i M) : wp_X7_chain a M (fun _ M1 => wp_X8_chain a M1 (fun _ M2 => Inv3 (i + 1) M2)) := by
  obtain ⟨n, b, t, V, h, hS⟩ := hI.2.1
  have hN := hS.nw
  have hn := hS.rv.1
  unfold wp_X7_chain
  refine q7n hn hS.1.1 (fun j hj ej => ?_) (fun g => e7A (i := 1) (by omega) (by omega) (by decide) St.rf (fun M1 p1 => ?_))
  · subst ej
    exact any_setHangingOn hn hj hS.1.1 (fun _ => any_setEnded GF12 hn hS.1.1 (fun _ => me_chain hN.2.1 (fun _ _ => hI.th (PC.of St.rf) (PM.of St.rf)) (fun g => absurd (by rw [nI_toInt (by omega)]; omega) g)))
  · exact me_chain (n := n) (by rw [p1.1 80 rfl]; exact hN.2.1) (fun g2 => absurd g2 g) (fun _ M2 p2 => hI.th p1 p2)
theorem z4_change {a c v : Int32} (hI : Inv3 i M) : wp_X7_change a c v M (fun r1 M1 => wp_X8_change a c v M1 (fun r2 M2 => r1 = r2 ∧ Inv3 (i + 1) M2)) := by
  obtain ⟨n, b, t, V, h, hS⟩ := hI.2.1
  have hn := hS.rv.1
  have hm : M 80 2 = nI n := hS.2.2.1.1
  have hB : ∀ q : Nat, q < n → BoolOK (M (14 + q) 6) := hS.nw.1.cn.2.2.1
  refine x_change hn hS.1.1 hB (fun j w x k s hj e1 e2 e3 e4 e5 => ?_) (fun g M1 p1 => y_change hn (by rw [p1.1 80 rfl]; exact hm) (fun j w x k s hj e1 e2 e3 e4 e5 => absurd ⟨j, w, x, hj, by unfold CF2 at e4; omega, e5, e1, e2, e3⟩ g) (fun _ M2 p2 => ⟨rfl, hI.th p1 p2⟩))
  refine y_change hn (by rw [up_cell (by omega)]; exact hm) (fun j' w' x' k' s' hj' e1' e2' e3' e4' e5' => ?_) (fun g => absurd ⟨j, w, x, hj, by unfold CF2 at e4; omega, e5, e1, e2, e3⟩ g)
  have h1 : j' = j := (nI_eq (by omega) (by omega)).mp (e1'.symm.trans e1)
  have h2 : w' = w := (nI_eq (by unfold CF2 at e4'; omega) (by unfold CF2 at e4; omega)).mp (e2'.symm.trans e2)
  have hs : s' = s := by unfold CF2 at e4 e4'; omega
  subst h1; subst hs
  have hmx : (w = 0 → mxW w = 9) ∧ (w = 1 → mxW w = 99) ∧ (w = 2 → mxW w = 1) ∧ (w = 3 → mxW w = 999) := ⟨fun e => by subst e; rfl, fun e => by subst e; rfl, fun e => by subst e; rfl, fun e => by subst e; rfl⟩
  rw [e3]
  obtain ⟨q1, q2⟩ := one_sa (k := k) (s := s') (x := x) hS hj (by unfold CF2 at e4; unfold FS; omega) (by unfold CF2 at e4; omega) rfl
  have e : ∀ c, (c < 14 ∨ 22 < c) → c ≠ 80 → (up (up M (14 + j') k (nI x)) 80 (s' + 7 * j') (nI x)) c = M c := fun c c1 c2 => by rw [up_o _ c2, up_o _ (by omega)]
  exact ⟨by rw [up_cell (by omega)]; exact q1, hI.rest (fun c hc => e c (by simp at hc; omega) (by simp at hc; omega)) (by rw [e 79 (by omega) (by omega)]) (by rw [e 79 (by omega) (by omega)]) (by rw [e 79 (by omega) (by omega)]) (e 78 (by omega) (by omega)) (e 83 (by omega) (by omega)) q2⟩
theorem z4_check (hI : Inv3 i M) : wp_X7_check M (fun r1 M1 => wp_X8_check M1 (fun r2 M2 => r1 = r2 ∧ Inv3 (i + 1) M2)) := by
  obtain ⟨n, b, t, V, h, hS⟩ := hI.2.1
  obtain ⟨⟨b1, b2, b3⟩, ⟨t1, t2, t3⟩, hz, hT, hW⟩ := hS.bt
  refine x_check hS.sc hS.v0 t1 t2 (fun M1 s1 => ?_)
  have em : ∀ c, c ≠ 1 → c ≠ 6 → c ≠ 11 → (c < 49 ∨ 59 < c) → M1 c = M c := fun c c1 c2 c3 c4 => by rw [s1 c (by simp; omega), up_o _ c1]
  have e80 : M1 80 = M 80 := em 80 (by omega) (by omega) (by omega) (by omega)
  refine y_check (n := n) (h := h) (V := V) (X := M) (t := t) (by rw [e80]; exact hS.2.2.1) hS.rv hS.hh (by rw [e80]; exact hS.t0) (by rw [e80]; exact hS.t1) hS.v0 t1 (by rw [e80]; exact t3) (fun M2 s2 => ⟨?_, ?_⟩)
  · rw [e80]
    congr 1
    refine chkF_congr t 0 (fun j _ hj => ?_)
    have e := endM_congr (V := passN (tvN 2 M) (tvN 7 M) false h n (j + 1) V) (W := passN (tvN 2 M) (tvN 7 M) true h n (j + 1) V) n (fun q _ => E9.pass E9.rf (j + 1) _ (by omega))
    rw [e, hW j (by omega)]
  · have eo : ∀ c, c ≠ 80 → c ≠ 82 → c ≠ 85 → c ≠ 86 → M2 c = M1 c := fun c c1 c2 c3 c4 => by rw [s2 c (by simp [c2, c3, c4]), up_o _ c1]
    have es : ∀ c, c ≠ 1 → c ≠ 6 → c ≠ 11 → (c < 49 ∨ 59 < c) → c ≠ 80 → c ≠ 82 → c ≠ 85 → c ≠ 86 → M2 c = M c := fun c c1 c2 c3 c4 c5 c6 c7 c8 => by rw [eo c c5 c6 c7 c8, em c c1 c2 c3 c4]
    have ec : ∀ c, 2 ≤ c → c ≤ 24 → c ≠ 6 → c ≠ 11 → M2 c = M c := fun c c1 c2 c3 c4 => es c (by omega) c3 c4 (by omega) (by omega) (by omega) (by omega) (by omega)
    have m1 : ∀ k, M2 1 k = (up M 1 6 0) 1 k := fun k => by rw [eo 1 (by omega) (by omega) (by omega) (by omega), s1 1 rfl]
    have m8 : ∀ k, M2 80 k = (up M1 80 4 0) 80 k := fun k => by rw [s2 80 rfl]
    have e1 : ∀ k, k ≠ 6 → M2 1 k = M 1 k := fun k hk => by rw [m1, up_slot _ hk]
    have e8 : ∀ k, k ≠ 4 → M2 80 k = M 80 k := fun k hk => by rw [m8, up_slot _ hk, e80]
    refine hI.rest (fun c hc => es c (by simp at hc; omega) (by simp at hc; omega) (by simp at hc; omega) (by simp at hc; omega) (by simp at hc; omega) (by simp at hc; omega) (by simp at hc; omega) (by simp at hc; omega)) (by rw [es 79 (by omega) (by omega) (by omega) (by omega) (by omega) (by omega) (by omega) (by omega)]) (by rw [es 79 (by omega) (by omega) (by omega) (by omega) (by omega) (by omega) (by omega) (by omega)]) (by rw [es 79 (by omega) (by omega) (by omega) (by omega) (by omega) (by omega) (by omega) (by omega)]) (es 78 (by omega) (by omega) (by omega) (by omega) (by omega) (by omega) (by omega) (by omega)) (es 83 (by omega) (by omega) (by omega) (by omega) (by omega) (by omega) (by omega) (by omega)) (hS.re (b' := b) (t' := 0) (fun c c1 c2 => ec c (by omega) (by omega) (by omega) (by omega)) (fun k k0 k1 k2 k3 k4 k5 => e8 k k3) (hS.t0.keep (ec _ (by omega) (by omega) (by omega) (by omega)) (ec _ (by omega) (by omega) (by omega) (by omega)) (ec _ (by omega) (by omega) (by omega) (by omega)) (ec _ (by omega) (by omega) (by omega) (by omega)) (e8 _ (by omega)) (fun j _ => e8 _ (by omega))) (hS.t1.keep (ec _ (by omega) (by omega) (by omega) (by omega)) (ec _ (by omega) (by omega) (by omega) (by omega)) (ec _ (by omega) (by omega) (by omega) (by omega)) (ec _ (by omega) (by omega) (by omega) (by omega)) (e8 _ (by omega)) (fun j _ => e8 _ (by omega))) ⟨b1, by rw [e1 5 (by omega)]; exact b2, by rw [e8 3 (by omega)]; exact b3⟩ ⟨by omega, by rw [m1, up_same]; rfl, by rw [m8, up_same]; rfl⟩ (by rw [e1 7 (by omega), e8 1 (by omega)]; exact hz) (fun j hj => by rw [ec 23 (by omega) (by omega) (by omega) (by omega), e8 _ (by omega)]; exact hT j hj) (fun j hj => absurd hj (Nat.not_lt_zero j)))
theorem z4_count {a : Int32} (hI : Inv3 i M) : wp_X7_count a M (fun r1 M1 => wp_X8_count a M1 (fun r2 M2 => r1 = r2 ∧ Inv3 (i + 1) M2)) := by
  obtain ⟨n, b, t, V, h, hS⟩ := hI.2.1
  have hn := hS.rv.1
  obtain ⟨⟨b1, b2, b3⟩, ⟨t1, t2, t3⟩, hz, hT, hW⟩ := hS.bt
  have hG : RG 12 n h V M := hS.1
  have h7 : M 12 7 = nI (V 9) := hS.2.1
  have hR := hS.2.2.1
  obtain ⟨z, hz40, e1, e2, -⟩ := hI.2.2.2.1
  have fin : Inv3 (i + 1) M := hI.th (PC.of St.rf) (PM.of St.rf)
  unfold wp_X7_count
  have go : ∀ {r : Int32}, wp_X8_count a M (fun r2 M2 => r = r2 ∧ Inv3 (i + 1) M2) → wp_X8_count a M (fun r2 M2 => r = r2 ∧ Inv3 (i + 1) M2) := fun x => x
  refine ⟨fun a0 => ?_, fun a0 => ⟨fun a1 => ?_, fun a1 => ⟨fun a2 => ?_, fun a2 => ⟨fun a3 => ?_, fun a3 => ⟨fun a4 => ?_, fun a4 => ⟨fun a5 => ?_, fun a5 => ⟨fun a6 => ?_, fun a6 => ⟨fun a7 => ?_, fun a7 => ⟨fun a8 => ?_, fun a8 => ⟨fun a9 => ?_, fun a9 => ⟨fun a10 => ?_, fun a10 => ⟨fun a11 => ?_, fun a11 => ?_⟩⟩⟩⟩⟩⟩⟩⟩⟩⟩⟩⟩
  · subst a0; unfold wp_X8_count
    exact ⟨fun _ => ⟨by rw [hG.1, hR.1], fin⟩, fun e => absurd rfl e⟩
  · subst a1; unfold wp_X8_count
    exact ⟨fun e => absurd e a0, fun _ => ⟨fun _ => ⟨by rw [hG.2.2.2.1, hR.2.2 0 (Or.inl rfl)], fin⟩, fun e => absurd rfl e⟩⟩
  · subst a2; unfold wp_X8_count
    exact ⟨fun e => absurd e a0, fun _ => ⟨fun e => absurd e a1, fun _ => ⟨fun _ => ⟨by rw [hG.2.1, hR.2.2 7 (Or.inr (Or.inl (by omega)))], fin⟩, fun e => absurd rfl e⟩⟩⟩
  · subst a3; unfold wp_X8_count
    exact ⟨fun e => absurd e a0, fun _ => ⟨fun e => absurd e a1, fun _ => ⟨fun e => absurd e a2, fun _ => ⟨fun _ => ⟨by rw [hG.2.2.1, hR.2.2 8 (Or.inr (Or.inl (by omega)))], fin⟩, fun e => absurd rfl e⟩⟩⟩⟩
  · subst a4; unfold wp_X8_count
    exact ⟨fun e => absurd e a0, fun _ => ⟨fun e => absurd e a1, fun _ => ⟨fun e => absurd e a2, fun _ => ⟨fun e => absurd e a3, fun _ => ⟨fun _ => ⟨by rw [h7, hR.2.2 9 (Or.inr (Or.inl (by omega)))], fin⟩, fun e => absurd rfl e⟩⟩⟩⟩⟩
  · subst a5; unfold wp_X8_count
    exact ⟨fun e => absurd e a0, fun _ => ⟨fun e => absurd e a1, fun _ => ⟨fun e => absurd e a2, fun _ => ⟨fun e => absurd e a3, fun _ => ⟨fun e => absurd e a4, fun _ => ⟨fun _ => ⟨by rw [hG.2.2.2.2.1, hR.2.2 10 (Or.inr (Or.inl (by omega)))], fin⟩, fun e => absurd rfl e⟩⟩⟩⟩⟩⟩
  · subst a6
    refine k_setEnded GF12 hG hS.rv ?_
    unfold wp_X8_count
    exact ⟨fun e => absurd e a0, fun _ => ⟨fun e => absurd e a1, fun _ => ⟨fun e => absurd e a2, fun _ => ⟨fun e => absurd e a3, fun _ => ⟨fun e => absurd e a4, fun _ => ⟨fun e => absurd e a5, fun _ => ⟨fun _ => g_overSet hR hS.rv ⟨rfl, fin⟩, fun e => absurd rfl e⟩⟩⟩⟩⟩⟩⟩
  · subst a7
    refine k_edges hG hn ?_
    unfold wp_X8_count
    exact ⟨fun e => absurd e a0, fun _ => ⟨fun e => absurd e a1, fun _ => ⟨fun e => absurd e a2, fun _ => ⟨fun e => absurd e a3, fun _ => ⟨fun e => absurd e a4, fun _ => ⟨fun e => absurd e a5, fun _ => ⟨fun e => absurd e a6, fun _ => ⟨fun _ => g_edges hR hn ⟨rfl, fin⟩, fun e => absurd rfl e⟩⟩⟩⟩⟩⟩⟩⟩
  · subst a8; unfold wp_X8_count
    exact ⟨fun e => absurd e a0, fun _ => ⟨fun e => absurd e a1, fun _ => ⟨fun e => absurd e a2, fun _ => ⟨fun e => absurd e a3, fun _ => ⟨fun e => absurd e a4, fun _ => ⟨fun e => absurd e a5, fun _ => ⟨fun e => absurd e a6, fun _ => ⟨fun e => absurd e a7, fun _ => ⟨fun _ => ⟨by rw [b2, b3], fin⟩, fun e => absurd rfl e⟩⟩⟩⟩⟩⟩⟩⟩⟩
  · subst a9; unfold wp_X8_count
    exact ⟨fun e => absurd e a0, fun _ => ⟨fun e => absurd e a1, fun _ => ⟨fun e => absurd e a2, fun _ => ⟨fun e => absurd e a3, fun _ => ⟨fun e => absurd e a4, fun _ => ⟨fun e => absurd e a5, fun _ => ⟨fun e => absurd e a6, fun _ => ⟨fun e => absurd e a7, fun _ => ⟨fun e => absurd e a8, fun _ => ⟨fun _ => ⟨by rw [t2, t3], fin⟩, fun e => absurd rfl e⟩⟩⟩⟩⟩⟩⟩⟩⟩⟩
  · subst a10; unfold wp_X8_count
    exact ⟨fun e => absurd e a0, fun _ => ⟨fun e => absurd e a1, fun _ => ⟨fun e => absurd e a2, fun _ => ⟨fun e => absurd e a3, fun _ => ⟨fun e => absurd e a4, fun _ => ⟨fun e => absurd e a5, fun _ => ⟨fun e => absurd e a6, fun _ => ⟨fun e => absurd e a7, fun _ => ⟨fun e => absurd e a8, fun _ => ⟨fun e => absurd e a9, fun _ => ⟨fun _ => ⟨by rw [e1, e2], fin⟩, fun e => absurd rfl e⟩⟩⟩⟩⟩⟩⟩⟩⟩⟩⟩
  · subst a11; unfold wp_X8_count
    exact ⟨fun e => absurd e a0, fun _ => ⟨fun e => absurd e a1, fun _ => ⟨fun e => absurd e a2, fun _ => ⟨fun e => absurd e a3, fun _ => ⟨fun e => absurd e a4, fun _ => ⟨fun e => absurd e a5, fun _ => ⟨fun e => absurd e a6, fun _ => ⟨fun e => absurd e a7, fun _ => ⟨fun e => absurd e a8, fun _ => ⟨fun e => absurd e a9, fun _ => ⟨fun e => absurd e a10, fun _ => ⟨fun _ => ⟨hz, fin⟩, fun e => absurd rfl e⟩⟩⟩⟩⟩⟩⟩⟩⟩⟩⟩⟩
  · refine e7A (i := 1) (by omega) (by omega) (by decide) St.rf (fun M1 p1 => ?_)
    unfold wp_X8_count
    exact ⟨fun e => absurd e a0, fun _ => ⟨fun e => absurd e a1, fun _ => ⟨fun e => absurd e a2, fun _ => ⟨fun e => absurd e a3, fun _ => ⟨fun e => absurd e a4, fun _ => ⟨fun e => absurd e a5, fun _ => ⟨fun e => absurd e a6, fun _ => ⟨fun e => absurd e a7, fun _ => ⟨fun e => absurd e a8, fun _ => ⟨fun e => absurd e a9, fun _ => ⟨fun e => absurd e a10, fun _ => ⟨fun e => absurd e a11, fun _ => e8A (i := 1) (by omega) (by omega) (by decide) St.rf (fun M2 p2 => ⟨rfl, hI.th p1 p2⟩)⟩⟩⟩⟩⟩⟩⟩⟩⟩⟩⟩⟩
theorem z4_days {a : Int32} (hI : Inv3 i M) : wp_X7_days a M (fun r1 M1 => wp_X8_days a M1 (fun r2 M2 => r1 = r2 ∧ Inv3 (i + 1) M2)) := by
  obtain ⟨n, b, t, V, h, hS⟩ := hI.2.1
  have hn := hS.rv.1
  have inj : ∀ {N N' : Nat}, N ≤ 60 → N' ≤ 60 → a = nI N → a = nI N' → N' = N := fun h1 h2 e1 e2 => (nI_eq (by omega) (by omega)).mp (e2.symm.trans e1)
  have no : ∀ {N : Nat}, 1 ≤ N → N ≤ 60 → a = nI N → ¬ ¬ (1 ≤ a.toInt ∧ a.toInt ≤ 60) := fun h1 h2 e g => g (by rw [e, nI_toInt (by omega)]; omega)
  refine x_days hS.sc hS.v0 (fun N n1 n60 eN hle M1 s1 f1 r1 g7 => ?_) (fun g M1 p1 => ?_) (fun N n1 n60 eN hlt M1 p1 => ?_)
  · have em : ∀ c, c ≠ 6 → c ≠ 11 → (c < 12 ∨ 22 < c) → M1 c = M c := fun c c1 c2 c3 => by
      by_cases e : c = 1
      · rw [e]; exact f1
      · exact s1 c (by simp; omega)
    have e80 : M1 80 = M 80 := em 80 (by omega) (by omega) (by omega)
    refine y_days (n := n) (h := h) (V := V) (X := M) (by rw [e80]; exact hS.2.2.1) hS.rv hS.hh (by rw [e80]; exact hS.t0) (by rw [e80]; exact hS.t1) hS.v0 (fun N' n1' n60' eN' _ M2 s2 r2 => ?_) (fun g => absurd g (no n1 n60 eN)) (fun N' n1' n60' eN' hlt' => ?_)
    · have := inj n60 n60' eN eN'; subst this
      obtain ⟨o1, o2⟩ := s2.o
      have es : ∀ c, c ≠ 6 → c ≠ 11 → (c < 12 ∨ 22 < c) → c ≠ 80 → c ≠ 85 → c ≠ 86 → M2 c = M c := fun c c1 c2 c3 c4 c5 c6 => by rw [o1 c c4 c5 c6, em c c1 c2 c3]
      obtain ⟨hv, hv0⟩ := rv_pass (lg := tvN 2 M) (lh := tvN 7 M) (wh := true) (h := h) hS.rv N' (by have := hS.v0; omega)
      refine ⟨rfl, hI.rest (fun c hc => es c (by simp at hc; omega) (by simp at hc; omega) (by simp at hc; omega) (by simp at hc; omega) (by simp at hc; omega) (by simp at hc; omega)) (by rw [es 79 (by omega) (by omega) (by omega) (by omega) (by omega) (by omega)]) (by rw [es 79 (by omega) (by omega) (by omega) (by omega) (by omega) (by omega)]) (by rw [es 79 (by omega) (by omega) (by omega) (by omega) (by omega) (by omega)]) (es 78 (by omega) (by omega) (by omega) (by omega) (by omega) (by omega)) (es 83 (by omega) (by omega) (by omega) (by omega) (by omega) (by omega)) (hS.num (fun c c1 c2 c3 c4 c5 => es c c4 c5 c3 (by omega) (by omega) (by omega)) (fun k hk => by rw [o1 1 (by omega) (by omega) (by omega), f1]) (fun k hk => by rw [o2 k (by omega), e80]) (by rw [o1 1 (by omega) (by omega) (by omega), f1, o2 1 (by omega), e80]; exact hS.bt.2.2.1) (r1.same hn (fun c c1 c2 => o1 c (by omega) (by omega) (by omega))) (by rw [o1 12 (by omega) (by omega) (by omega)]; exact g7) r2 hv (by rw [hv0]; exact hle) hS.hh)⟩
    · have := inj n60 n60' eN eN'; omega
  · have e80 : M1 80 = M 80 := p1.1 80 rfl
    exact y_days (n := n) (h := h) (V := V) (X := M) (by rw [e80]; exact hS.2.2.1) hS.rv hS.hh (by rw [e80]; exact hS.t0) (by rw [e80]; exact hS.t1) hS.v0 (fun N' n1' n60' eN' => absurd g (no n1' n60' eN')) (fun _ M2 p2 => ⟨rfl, hI.th p1 p2⟩) (fun N' n1' n60' eN' => absurd g (no n1' n60' eN'))
  · have e80 : M1 80 = M 80 := p1.1 80 rfl
    exact y_days (n := n) (h := h) (V := V) (X := M) (by rw [e80]; exact hS.2.2.1) hS.rv hS.hh (by rw [e80]; exact hS.t0) (by rw [e80]; exact hS.t1) hS.v0 (fun N' n1' n60' eN' hle => by have := inj n60 n60' eN eN'; omega) (fun g => absurd g (no n1 n60 eN)) (fun N' n1' n60' eN' _ M2 p2 => ⟨rfl, hI.th p1 p2⟩)
theorem z4_edges {a : Int32} (hI : Inv3 i M) : wp_X7_edges a M (fun r1 M1 => wp_X8_edges a M1 (fun r2 M2 => r1 = r2 ∧ Inv3 (i + 1) M2)) := by
  obtain ⟨n, b, t, V, h, hS⟩ := hI.2.1
  have hn := hS.rv.1
  have hH := hI.2.2.1
  have hR := hS.2.2.1
  have hm : ∀ {M1 : Mem}, (∀ c, 79 ≤ c → M1 c = M c) → SMc M1 := fun h j hj => by rw [h 88 (by omega)]; exact hH.m j hj
  have inj : ∀ {p q : Nat} {v : Int32}, p < 4 → q < 4 → v = nI p → v = nI q → q = p := fun hp hq e1 e2 => (nI_eq (by omega) (by omega)).mp (e2.symm.trans e1)
  refine xe_edges hS.1 hS.rv hH.c (fun j z hj ej ez hz hb M1 h1 g1 g2 g3 g4 => ?_) (fun g M1 h1 => ?_) (fun j hj ej hb M1 h1 => ?_)
  · have em : ∀ c, (c < 14 ∨ 22 < c) → M1 c = M c := fun c hc => h1 c (by simp; omega)
    obtain ⟨z', hz', f1, f2, f3, f4⟩ := hH j hj
    have hzz : z' = z := (nI_eq (by omega) (by omega)).mp (f1.symm.trans ez)
    subst hzz
    refine ye_edges (n := n) (h := h) (V := V) (by rw [em 80 (by omega)]; exact hR) hn (hm (fun c hc => em c (by omega))) (fun j' z2 hj' ej' ez' hz2 hb' M2 d1 d2 d3 => ?_) (fun g => absurd (by rw [ej, nI_toInt (by omega)]; omega) g) (fun j' hj' ej' hb' => ?_)
    · have := inj hj hj' ej ej'; subst this
      have hz3 : z2 = z' := (nI_eq (by omega) (by omega)).mp (ez'.symm.trans (by rw [em 88 (by omega)]; exact f2))
      subst hz3
      rw [em 89 (by omega)] at d3 ⊢
      have hc1 : edgeN (fun k => M 89 (40 * j' + k)) (min n z2) = edgeN (M (71 + 2 * j')) (min n z2) := (edgeN_congr (min n z2) (fun k hk => f4 k (by omega))).symm
      have hle := edgeN_le (M (71 + 2 * j')) (min n z2)
      rw [hc1] at d3 ⊢
      rw [show edV (fun k => M 89 (40 * j' + k)) (edgeN (M (71 + 2 * j')) (min n z2)) V = edV (M (71 + 2 * j')) (edgeN (M (71 + 2 * j')) (min n z2)) V from edV_congr _ (fun k hk => (f4 k (by omega)).symm)] at d3
      generalize edV (M (71 + 2 * j')) (edgeN (M (71 + 2 * j')) (min n z2)) V = V' at g1 g2 g3 g4 d3
      have ex : ∀ c, c ≠ 80 → M2 c = M1 c := fun c hc => d1 c (by simp [hc])
      have es : ∀ c, (c < 14 ∨ 22 < c) → c ≠ 80 → M2 c = M c := fun c c1 c2 => by rw [ex c c2, em c c1]
      have e8 : ∀ k, (k < 11 ∨ 74 ≤ k) → M2 80 k = M 80 k := fun k hk => by rw [d2 k hk, em 80 (by omega)]
      refine ⟨rfl, hI.rest (fun c hc => es c (by simp at hc; omega) (by simp at hc; omega)) (by rw [es 79 (by omega) (by omega)]) (by rw [es 79 (by omega) (by omega)]) (by rw [es 79 (by omega) (by omega)]) (es 78 (by omega) (by omega)) (es 83 (by omega) (by omega)) (hS.num (fun c c1 c2 c3 c4 c5 => es c (by omega) (by omega)) (fun k hk => by rw [es 1 (by omega) (by omega)]) (fun k hk => e8 k (by omega)) (by rw [es 1 (by omega) (by omega), e8 1 (by omega)]; exact hS.bt.2.2.1) (g1.same hn (fun c c1 c2 => ex c (by omega))) (by rw [es 12 (by omega) (by omega), g3]; exact hS.2.1) d3 g2 (by rw [g4]; exact hS.v0) hS.hh)⟩
    · have := inj hj hj' ej ej'; subst this
      rw [em 87 (by omega), ← f3] at hb'
      exact absurd hb' hb
  · have em : ∀ c, 79 ≤ c → M1 c = M c := fun c hc => h1.1 c (by simp <;> omega)
    exact ye_edges (n := n) (h := h) (V := V) (by rw [em 80 (by omega)]; exact hR) hn (hm (fun c hc => em c (by omega))) (fun j z hj ej => absurd (by rw [ej, nI_toInt (by omega)]; omega) g) (fun _ M2 h2 => ⟨rfl, hI.th h1 h2⟩) (fun j hj ej => absurd (by rw [ej, nI_toInt (by omega)]; omega) g)
  · have em : ∀ c, 79 ≤ c → M1 c = M c := fun c hc => h1.1 c (by simp <;> omega)
    obtain ⟨z', hz', f1, f2, f3, f4⟩ := hH j hj
    refine ye_edges (n := n) (h := h) (V := V) (by rw [em 80 (by omega)]; exact hR) hn (hm (fun c hc => em c (by omega))) (fun j' z2 hj' ej' ez' hz2 hb' M2 h2 => ?_) (fun g => absurd (by rw [ej, nI_toInt (by omega)]; omega) g) (fun j' hj' ej' hb' M2 h2 => ⟨rfl, hI.th h1 h2⟩)
    have := inj hj hj' ej ej'; subst this
    rw [em 87 (by omega), ← f3] at hb'
    exact absurd hb hb'
theorem z4_ended {a : Int32} (hI : Inv3 i M) : wp_X7_ended a M (fun r1 M1 => wp_X8_ended a M1 (fun r2 M2 => r1 = r2 ∧ Inv3 (i + 1) M2)) := by
  obtain ⟨n, b, t, V, h, hS⟩ := hI.2.1
  exact z_of4 (A := endedA (tvN 2 M) (tvN 7 M) h n V a) (W7 := wp_X7_ended a) (W8 := wp_X8_ended a) hI (fun K hk => C_ended hS hk) (fun M1 h1 K hk => G_ended (hS.gh (h1 80 rfl)) hk)
theorem z4_fee {a : Int32} (hI : Inv3 i M) : wp_X7_fee a M (fun r1 M1 => wp_X8_fee a M1 (fun r2 M2 => r1 = r2 ∧ Inv3 (i + 1) M2)) := by
  obtain ⟨n, b, t, V, h, hS⟩ := hI.2.1
  exact z_of4 (A := feeA (tvN 2 M) (tvN 7 M) h n V a) (W7 := wp_X7_fee a) (W8 := wp_X8_fee a) hI (fun K hk => C_fee hS hk) (fun M1 h1 K hk => G_fee (hS.gh (h1 80 rfl)) hk)
theorem z4_feed {w : Int64} {a : Int32} (hI : Inv3 i M) : wp_X7_feed w a M (fun r1 M1 => wp_X8_feed w a M1 (fun r2 M2 => r1 = r2 ∧ Inv3 (i + 1) M2)) := by
  obtain ⟨n, b, t, V, h, hS⟩ := hI.2.1
  obtain ⟨⟨b1, b2, b3⟩, ⟨t1, t2, t3⟩, hz, hT, hW⟩ := hS.bt
  by_cases hc : 1 ≤ a.toInt ∧ a.toInt ≤ 8
  · obtain ⟨N, hN, rfl⟩ := nat_of (x := a) 8 (by omega) hc.2 (by decide)
    have hN1 : 1 ≤ N := by have := hc.1; rw [nI_toInt (by omega)] at this; omega
    unfold wp_X7_feed
    refine w7n 1 8 (by decide) (by decide) (fun _ _ => ?_) (fun g => absurd hc g)
    rw [b2, nI_add]
    refine pk_le (b + N) 50 (fun q => ?_) (fun q => e7A (i := 4) (by omega) (by omega) (by decide) St.rf (fun M1 p1 => ?_))
    · refine loopN (L := fun k y M' => wp_X7_feed_L41 (fun r1 M1 => wp_X8_feed w (nI N) M1 (fun r2 M2 => r1 = r2 ∧ Inv3 (i + 1) M2)) w (nI N) k y M') N (fun i M' => St (fun c => c == 23) M M' ∧ (∀ k, (k < b ∨ b + i ≤ k) → M' 23 k = M 23 k) ∧ ∀ j, j < i → M' 23 (b + j) = ((w >>> ((8 * nI j).toInt64 &&& 63)) &&& 255).toInt32) ?_ 0 (Nat.zero_le _) ⟨St.rf, fun _ _ => rfl, fun j hj => absurd hj (Nat.not_lt_zero j)⟩
      intro x M' k hi hs ih
      obtain ⟨hs, hl, hg⟩ := hs
      show wp_X7_feed_l41 _ w (nI N) (wp_X7_feed_L41 _ w (nI N) k) (nI x) M'
      unfold wp_X7_feed_l41
      have e5 : M' 1 5 = nI b := by rw [hs 1 rfl]; exact b2
      rw [up_same, e5, nI_add, nI_add]
      refine ⟨fun q2 => ?_, fun q2 => ?_⟩
      · have : x = N := by have := le_of_nI q2 (by omega) (by omega); omega
        subst this
        unfold wp_X8_feed
        refine w8n 1 8 (by decide) (by decide) (fun _ _ => ?_) (fun g => absurd hc g)
        have f3 : (up M' 1 5 (nI (b + x))) 80 3 = nI b := by rw [up_cell (by omega), hs 80 rfl]; exact b3
        rw [f3, nI_add]
        refine ⟨fun _ => ?_, fun g => absurd (show nI (b + x) ≤ nI 50 from nI_le q (by omega)) g⟩
        generalize hM1 : up M' 1 5 (nI (b + x)) = M1 at f3
        have m1 : ∀ c, c ≠ 1 → c ≠ 23 → M1 c = M c := fun c c1 c2 => by rw [← hM1, up_o _ c1, hs c (by simp [c2])]
        have m11 : ∀ k, k ≠ 5 → M1 1 k = M 1 k := fun k hk => by rw [← hM1, up_slot _ hk, hs 1 rfl]
        have m15 : M1 1 5 = nI (b + x) := by rw [← hM1, up_same]
        have m23 : M1 23 = M' 23 := by rw [← hM1, up_o _ (by omega)]
        refine loopN (L := fun k v M' => wp_X8_feed_L40 (fun r2 M2 => nI (b + x) = r2 ∧ Inv3 (i + 1) M2) w (nI x) k v M') x (fun y M2 => St (fun c => c == 80) M1 M2 ∧ M2 80 3 = nI (b + y) ∧ (∀ k, k ≠ 3 → (k < 74 + b ∨ 74 + b + y ≤ k) → M2 80 k = M1 80 k) ∧ ∀ j, j < y → M2 80 (74 + (b + j)) = ((w >>> ((8 * nI j).toInt64 &&& 63)) &&& 255).toInt32) ?_ 0 (Nat.zero_le _) ⟨St.rf, f3, fun _ _ _ => rfl, fun j hj => absurd hj (Nat.not_lt_zero j)⟩
        intro y M2 k2 hy hs2 ih2
        obtain ⟨s2, s3, s4, s5⟩ := hs2
        show wp_X8_feed_l40 _ w (nI x) (wp_X8_feed_L40 _ w (nI x) k2) (nI y) M2
        unfold wp_X8_feed_l40
        rw [s3, show (74 : Int32) = nI 74 from rfl, nI_add, nI_clamp (by omega)]
        refine ⟨fun q3 => ?_, fun q3 => ⟨vp_in_nI (by omega) (by decide), ?_⟩⟩
        · have : y = x := by have := le_of_nI q3 (by omega) (by omega); omega
          subst this
          have e : ∀ c, c ≠ 1 → c ≠ 23 → c ≠ 80 → M2 c = M c := fun c c1 c2 c3 => by rw [s2 c (by simp [c3])]; exact m1 c c1 c2
          have e1 : ∀ k, k ≠ 5 → M2 1 k = M 1 k := fun k hk => by rw [s2 1 rfl]; exact m11 k hk
          have e8 : ∀ k, k ≠ 3 → (k < 74 + b ∨ 74 + b + y ≤ k) → M2 80 k = M 80 k := fun k k1 k2 => by rw [s4 k k1 k2, m1 80 (by omega) (by omega)]
          refine ⟨rfl, hI.rest (fun c hc => e c (by simp at hc; omega) (by simp at hc; omega) (by simp at hc; omega)) (by rw [e 79 (by omega) (by omega) (by omega)]) (by rw [e 79 (by omega) (by omega) (by omega)]) (by rw [e 79 (by omega) (by omega) (by omega)]) (e 78 (by omega) (by omega) (by omega)) (e 83 (by omega) (by omega) (by omega)) (hS.re2 (b' := b + y) (t' := t) (fun c c1 c2 => e c (by omega) (by omega) (by omega)) (fun k k1 k2 k3 k4 => e8 k k2 (by omega)) ⟨by omega, by rw [s2 1 rfl]; exact m15, s3⟩ ⟨t1, by rw [e1 6 (by omega)]; exact t2, by rw [e8 4 (by omega) (by omega)]; exact t3⟩ (by rw [e1 7 (by omega), e8 1 (by omega) (by omega)]; exact hz) (fun j hj => ?_) (fun j hj => by rw [e 24 (by omega) (by omega) (by omega), e8 _ (by omega) (by omega)]; exact hW j hj))⟩
          rw [s2 23 rfl, m23]
          rcases Nat.lt_or_ge j b with g | g
          · rw [hl j (Or.inl g), e8 _ (by omega) (by omega)]; exact hT j g
          · obtain ⟨d, rfl⟩ : ∃ d, j = b + d := ⟨j - b, by omega⟩
            rw [hg d (by omega), s5 d (by omega)]
        · have hyx : y < x := lt_of_nI q3 (by omega) (by omega)
          rintro _ rfl
          rw [nI_1, up_slot _ (by omega), s3, nI_1]
          refine ih2 _ hyx ⟨(s2.up rfl).up rfl, up_same, fun k k1 k2 => ?_, fun j hj => ?_⟩
          · rw [up_slot _ k1, up_slot _ (by omega)]; exact s4 k k1 (by omega)
          · rw [up_slot _ (by omega)]
            by_cases g : j = y
            · subst g; rw [show 74 + (b + j) = 74 + (b + j) from rfl, up_same]
            · rw [up_slot _ (by omega)]; exact s5 j (by omega)
      · have hi2 : x < N := lt_of_nI q2 (by omega) (by omega)
        refine ⟨vp_in_nI (by omega) (by decide), ?_⟩
        rintro _ rfl
        rw [nI_1, nI_clamp (by omega), feed_byte w x (by omega)]
        refine ih _ hi2 ⟨hs.up rfl, fun k hk => ?_, fun j hj => ?_⟩
        · rw [up_slot _ (by omega)]; exact hl k (by omega)
        · by_cases g : j = x
          · subst g; rw [up_same]
          · rw [up_slot _ (by omega)]; exact hg j (by omega)
    · unfold wp_X8_feed
      refine w8n 1 8 (by decide) (by decide) (fun _ _ => ?_) (fun g => absurd hc g)
      have f3 : M1 80 3 = nI b := by rw [p1.1 80 rfl]; exact b3
      rw [f3, nI_add]
      exact ⟨fun g => absurd (le_of_nI (a := b + N) (b := 50) g (by omega) (by omega)) (by omega), fun _ => e8A (i := 4) (by omega) (by omega) (by decide) St.rf (fun M2 p2 => ⟨rfl, hI.th p1 p2⟩)⟩
  · unfold wp_X7_feed
    refine w7n 1 8 (by decide) (by decide) (fun g1 g2 => absurd ⟨g1, g2⟩ hc) (fun _ => e7A (i := 1) (by omega) (by omega) (by decide) St.rf (fun M1 p1 => ?_))
    unfold wp_X8_feed
    exact w8n 1 8 (by decide) (by decide) (fun g1 g2 => absurd ⟨g1, g2⟩ hc) (fun _ => e8A (i := 1) (by omega) (by omega) (by decide) St.rf (fun M2 p2 => ⟨rfl, hI.th p1 p2⟩))
theorem z4_first {a c : Int32} (hI : Inv3 i M) : wp_X7_first a c M (fun r1 M1 => wp_X8_first a c M1 (fun r2 M2 => r1 = r2 ∧ Inv3 (i + 1) M2)) := by
  obtain ⟨n, b, t, V, h, hS⟩ := hI.2.1
  exact z_of4 (A := fstA (tvN 2 M) (tvN 7 M) h n V a c) (W7 := wp_X7_first a c) (W8 := wp_X8_first a c) hI (fun K hk => C_first hS hk) (fun M1 h1 K hk => G_first (hS.gh (h1 80 rfl)) hk)
theorem z4_free (hI : Inv3 i M) : wp_X7_free M (fun r1 M1 => wp_X8_free M1 (fun r2 M2 => r1 = r2 ∧ Inv3 (i + 1) M2)) := by
  obtain ⟨n, b, t, V, h, hS⟩ := hI.2.1
  exact z_of4 (A := (nI (freeM h V n), 0)) (W7 := wp_X7_free) (W8 := wp_X8_free) hI (fun K hk => C_free hS hk) (fun M1 h1 K hk => G_free (hS.gh (h1 80 rfl)) hk)
theorem z4_hand {q a : Int32} (hI : Inv3 i M) : wp_X7_hand q a M (fun r1 M1 => wp_X8_hand q a M1 (fun r2 M2 => r1 = r2 ∧ Inv3 (i + 1) M2)) := by
  obtain ⟨n, b, t, V, h, hS⟩ := hI.2.1
  exact z_of4 (A := hndA (tvN 2 M) (tvN 7 M) h n V q a) (W7 := wp_X7_hand q a) (W8 := wp_X8_hand q a) hI (fun K hk => C_hand hS hk) (fun M1 h1 K hk => G_hand (hS.gh (h1 80 rfl)) hk)
theorem z4_image (hI : Inv3 i M) (hi : i < 2 ^ 29) : wp_X7_image M (fun r1 M1 => wp_X8_image M1 (fun r2 M2 => r1 = r2 ∧ Inv3 (i + 1) M2)) := by
  obtain ⟨n, b, t, V, h, hS⟩ := hI.2.1
  obtain ⟨m, n0, b0, t0, i1, i2, i3, i4, i5, i6, i7⟩ := hI.2.2.2.2
  unfold wp_X7_image
  refine e_cpw WF25 WF1 (by omega) hS.wk (fun M1 s1 hC => ?_)
  have k1 : ∀ c, (c < 25 ∨ 48 < c) → M1 c = M c := fun c hc => s1 c (by simp; omega)
  rw [up_same, k1 0 (by omega), i2, nI_1]
  unfold wp_X8_image
  refine m_move rfl rfl (by decide) (fun M2 s2 r1 r2 => ?_)
  have k2 : ∀ c, c ≠ 81 → M2 c = (up M1 0 7 (nI (m + 1))) c := fun c hc => s2 c (by simp [hc])
  have e79 : ∀ k, M2 79 k = M 79 k := fun k => by rw [k2 _ (by omega), up_o _ (by omega), k1 _ (by omega)]
  have e4 : (up M2 79 3 1) 79 4 = nI m := by rw [up_slot _ (by omega), e79]; exact i3
  rw [up_same, e4, nI_1]
  have ke : ∀ c, c ≠ 0 → c ≠ 79 → c ≠ 81 → (c < 25 ∨ 48 < c) → (up (up M2 79 3 1) 79 4 (nI (m + 1))) c = M c := fun c c1 c2 c3 c4 => by
    rw [up_o _ c2, up_o _ c2, k2 c c3, up_o _ c1, k1 c c4]
  have kw : ∀ c, 25 ≤ c → c ≤ 25 + 23 → (up (up M2 79 3 1) 79 4 (nI (m + 1))) c = M1 c := fun c c1 c2 => by
    rw [up_o _ (by omega), up_o _ (by omega), k2 c (by omega), up_o _ (by omega)]
  have k81 : ∀ k, k < 244 → (up (up M2 79 3 1) 79 4 (nI (m + 1))) 81 k = M 80 k := fun k hk => by
    rw [up_cell (by omega), up_cell (by omega), r1 k hk, up_o _ (by omega), k1 80 (by omega)]
  have hS2 := hS.copy (w := 25) (r2 := 81) hC kw k81
  refine ⟨rfl, hI.1.keep (ke _ (by omega) (by omega) (by omega) (by omega)) (ke _ (by omega) (by omega) (by omega) (by omega)) (ke _ (by omega) (by omega) (by omega) (by omega)), ⟨n, b, t, V, h, hS.keep (fun c c1 c2 _ _ => ke c (by omega) (by omega) (by omega) (by omega)) (ke _ (by omega) (by omega) (by omega) (by omega))⟩, hI.2.2.1.keep (fun c c1 c2 => ke c (by omega) (by omega) (by omega) (by omega)) (ke _ (by omega) (by omega) (by omega) (by omega)) (ke _ (by omega) (by omega) (by omega) (by omega)) (ke _ (by omega) (by omega) (by omega) (by omega)), hI.2.2.2.1.keep (ke _ (by omega) (by omega) (by omega) (by omega)) (ke _ (by omega) (by omega) (by omega) (by omega)) (ke _ (by omega) (by omega) (by omega) (by omega)) (by rw [up_slot _ (by omega), up_slot _ (by omega), e79]), m + 1, n, b, t, by omega, ?_, up_same, fun e => by omega, fun _ => ?_, hS2.wk, fun _ => ⟨V, h, hS2⟩⟩
  · rw [up_cell (by omega), up_cell (by omega), k2 0 (by omega), up_same]
  · rw [up_slot _ (by omega), up_same]
theorem z4_inArea {a : Int32} (hI : Inv3 i M) : wp_X7_inArea a M (fun r1 M1 => wp_X8_inArea a M1 (fun r2 M2 => r1 = r2 ∧ Inv3 (i + 1) M2)) := by
  obtain ⟨n, x, t, hN⟩ := hI.inv.2.1
  refine pe_inArea hN.1.cn (fun g1 g2 => me_inArea hN.2.1 (fun _ _ => ⟨setIn_congr n (fun k hk => ?_), hI.th (PC.of St.rf) (PM.of St.rf)⟩) (fun g => absurd ⟨g1, g2⟩ g)) (fun g M1 h1 => me_inArea (by rw [h1.1 80 rfl]; exact hN.2.1) (fun g1 g2 => absurd ⟨g1, g2⟩ g) (fun _ M2 h2 => ⟨rfl, hI.th h1 h2⟩))
  exact (hN.2.2.2.2.2.2 k hk).2.2
theorem z4_judge {a : Int32} (hI : Inv3 i M) : wp_X7_judge a M (fun r1 M1 => wp_X8_judge a M1 (fun r2 M2 => r1 = r2 ∧ Inv3 (i + 1) M2)) := by
  obtain ⟨n, b, t, V, h, hS⟩ := hI.2.1
  have hn := hS.rv.1
  have hH := hI.2.2.1
  have hR := hS.2.2.1
  have inj : ∀ {p q : Nat} {v : Int32}, p < 4 → q < 4 → v = nI p → v = nI q → q = p := fun hp hq e1 e2 => (nI_eq (by omega) (by omega)).mp (e2.symm.trans e1)
  have hm : ∀ {M1 : Mem}, St SX M M1 → SMc M1 := fun h j hj => by rw [h 88 rfl]; exact hH.m j hj
  refine x_judge hS hH.c (fun j z hj ej ez hz hbt M1 p1 => ?_) (fun g M1 p1 => ?_) (fun j hj ej hbt M1 p1 => ?_)
  · obtain ⟨z', hz', f1, f2, f3, f4⟩ := hH j hj
    have hzz : z' = z := (nI_eq (by omega) (by omega)).mp (f1.symm.trans ez)
    subst hzz
    refine y_judge (n := n) (h := h) (V := V) (by rw [p1.1 80 rfl]; exact hR) hn (hm p1.1) (fun j' z2 hj' ej' ez' hz2 hb' M2 p2 => ⟨?_, hI.th p1 p2⟩) (fun g => absurd (by rw [ej, nI_toInt (by omega)]; omega) g) (fun j' hj' ej' hb' => ?_)
    · have := inj hj hj' ej ej'; subst this
      have hz3 : z2 = z' := (nI_eq (by omega) (by omega)).mp (ez'.symm.trans (by rw [p1.1 88 rfl]; exact f2))
      subst hz3
      rw [p1.1 89 rfl]
      have ef : fnd (jdP (M (71 + 2 * j')) V) 0 (min n z2) = fnd (jdP (fun k => M 89 (40 * j' + k)) V) 0 (min n z2) := fnd_congr (min n z2) 0 (fun k _ hk => by unfold jdP; rw [f4 k (by omega)])
      unfold jdV
      rw [ef]
    · have := inj hj hj' ej ej'; subst this
      rw [p1.1 87 rfl, ← f3] at hb'; exact absurd hb' hbt
  · exact y_judge (n := n) (h := h) (V := V) (by rw [p1.1 80 rfl]; exact hR) hn (hm p1.1) (fun j z hj ej => absurd (by rw [ej, nI_toInt (by omega)]; omega) g) (fun _ M2 p2 => ⟨rfl, hI.th p1 p2⟩) (fun j hj ej => absurd (by rw [ej, nI_toInt (by omega)]; omega) g)
  · obtain ⟨z', hz', f1, f2, f3, f4⟩ := hH j hj
    refine y_judge (n := n) (h := h) (V := V) (by rw [p1.1 80 rfl]; exact hR) hn (hm p1.1) (fun j' z2 hj' ej' ez' hz2 hb' => ?_) (fun g => absurd (by rw [ej, nI_toInt (by omega)]; omega) g) (fun j' hj' ej' hb' M2 p2 => ⟨rfl, hI.th p1 p2⟩)
    have := inj hj hj' ej ej'; subst this
    rw [p1.1 87 rfl, ← f3] at hb'; exact absurd hbt hb'
theorem z4_last {c : Int32} (hI : Inv3 i M) : wp_X7_last c M (fun r1 M1 => wp_X8_last c M1 (fun r2 M2 => r1 = r2 ∧ Inv3 (i + 1) M2)) := by
  obtain ⟨n, b, t, V, h, hS⟩ := hI.2.1
  exact z_of4 (A := lstA (tvN 2 M) (tvN 7 M) h n V c) (W7 := wp_X7_last c) (W8 := wp_X8_last c) hI (fun K hk => C_last hS hk) (fun M1 h1 K hk => G_last (hS.gh (h1 80 rfl)) hk)
theorem z4_law {a x y z : Int32} (hI : Inv3 i M) : wp_X7_law a x y z M (fun r1 M1 => wp_X8_law a x y z M1 (fun r2 M2 => r1 = r2 ∧ Inv3 (i + 1) M2)) := by
  obtain ⟨n, b, t, V, h, hS⟩ := hI.2.1
  exact z_of4 (A := lawA M a x y z) (W7 := wp_X7_law a x y z) (W8 := wp_X8_law a x y z) hI (fun K hk => C_law hS hk) (fun M1 h1 K hk => G_law (by rw [h1 80 rfl]; exact hS.t0) (by rw [h1 80 rfl]; exact hS.t1) hk)
theorem z4_loose {a : Int32} (hI : Inv3 i M) : wp_X7_loose a M (fun r1 M1 => wp_X8_loose a M1 (fun r2 M2 => r1 = r2 ∧ Inv3 (i + 1) M2)) := by
  obtain ⟨n, b, t, V, h, hS⟩ := hI.2.1
  have hn := hS.rv.1
  have hz := hS.bt.2.2.1
  have inj : ∀ {N N' : Nat}, N ≤ 60 → N' ≤ 60 → a = nI N → a = nI N' → N' = N := fun h1 h2 e1 e2 => (nI_eq (by omega) (by omega)).mp (e2.symm.trans e1)
  have no : ∀ {N : Nat}, 1 ≤ N → N ≤ 40 → a = nI N → ¬ ¬ (1 ≤ a.toInt ∧ a.toInt ≤ 40) := fun h1 h2 e g => g (by rw [e, nI_toInt (by omega)]; omega)
  refine x_loose hS.sc hS.v0 (fun N n1 n60 eN hle M1 s1 f1 fz r1 g7 => ?_) (fun g M1 p1 => ?_) (fun N n1 n60 eN hlt M1 p1 => ?_)
  · have em : ∀ c, c ≠ 6 → c ≠ 11 → c ≠ 1 → (c < 12 ∨ 22 < c) → M1 c = M c := fun c c1 c2 c3 c4 => s1 c (by simp; omega)
    have e80 : M1 80 = M 80 := em 80 (by omega) (by omega) (by omega) (by omega)
    refine y_loose (n := n) (h := h) (V := V) (X := M) (by rw [e80]; exact hS.2.2.1) hS.rv hS.hh (by rw [e80]; exact hS.t0) (by rw [e80]; exact hS.t1) hS.v0 (fun N' n1' n60' eN' _ M2 o1 o2 oz r2 => ?_) (fun g => absurd g (no n1 n60 eN)) (fun N' n1' n60' eN' hlt' => ?_)
    · have := inj (by omega) (by omega) eN eN'; subst this
      rw [e80, ← hz] at r2 oz ⊢
      have es : ∀ c, c ≠ 6 → c ≠ 11 → c ≠ 1 → (c < 12 ∨ 22 < c) → c ≠ 80 → c ≠ 85 → c ≠ 86 → M2 c = M c := fun c c1 c2 c0 c3 c4 c5 c6 => by rw [o1 c c4 c5 c6, em c c1 c2 c0 c3]
      obtain ⟨hv, hv0⟩ := rv_loo (lg := tvN 2 M) (lh := tvN 7 M) (h := h) (z := M 1 7) hS.rv N' (by have := hS.v0; omega)
      refine ⟨rfl, hI.rest (fun c hc => es c (by simp at hc; omega) (by simp at hc; omega) (by simp at hc; omega) (by simp at hc; omega) (by simp at hc; omega) (by simp at hc; omega) (by simp at hc; omega)) (by rw [es 79 (by omega) (by omega) (by omega) (by omega) (by omega) (by omega) (by omega)]) (by rw [es 79 (by omega) (by omega) (by omega) (by omega) (by omega) (by omega) (by omega)]) (by rw [es 79 (by omega) (by omega) (by omega) (by omega) (by omega) (by omega) (by omega)]) (es 78 (by omega) (by omega) (by omega) (by omega) (by omega) (by omega) (by omega)) (es 83 (by omega) (by omega) (by omega) (by omega) (by omega) (by omega) (by omega)) (hS.num (fun c c1 c2 c3 c4 c5 => es c c4 c5 (by omega) c3 (by omega) (by omega) (by omega)) (fun k hk => by rw [o1 1 (by omega) (by omega) (by omega)]; exact f1 k hk) (fun k hk => by rw [o2 k (by omega), e80]) (by rw [o1 1 (by omega) (by omega) (by omega), fz, oz]) (r1.same hn (fun c c1 c2 => o1 c (by omega) (by omega) (by omega))) (by rw [o1 12 (by omega) (by omega) (by omega)]; exact g7) r2 hv (by rw [hv0]; exact hle) hS.hh)⟩
    · have := inj (by omega) (by omega) eN eN'; omega
  · have e80 : M1 80 = M 80 := p1.1 80 rfl
    exact y_loose (n := n) (h := h) (V := V) (X := M) (by rw [e80]; exact hS.2.2.1) hS.rv hS.hh (by rw [e80]; exact hS.t0) (by rw [e80]; exact hS.t1) hS.v0 (fun N' n1' n60' eN' => absurd g (no n1' n60' eN')) (fun _ M2 p2 => ⟨rfl, hI.th p1 p2⟩) (fun N' n1' n60' eN' => absurd g (no n1' n60' eN'))
  · have e80 : M1 80 = M 80 := p1.1 80 rfl
    exact y_loose (n := n) (h := h) (V := V) (X := M) (by rw [e80]; exact hS.2.2.1) hS.rv hS.hh (by rw [e80]; exact hS.t0) (by rw [e80]; exact hS.t1) hS.v0 (fun N' n1' n60' eN' hle => by have := inj (by omega) (by omega) eN eN'; omega) (fun g => absurd g (no n1 n60 eN)) (fun N' n1' n60' eN' _ M2 p2 => ⟨rfl, hI.th p1 p2⟩)
theorem z4_move {s a o c v : Int32} (hI : Inv3 i M) : wp_X7_move s a o c v M (fun r1 M1 => wp_X8_move s a o c v M1 (fun r2 M2 => r1 = r2 ∧ Inv3 (i + 1) M2)) := by
  obtain ⟨n, b, t, hN⟩ := hI.inv.2.1
  have hS := hI.2.2.1
  have eB : ∀ p : Nat, p < 4 → M (70 + 2 * p) 1 = M 87 p := fun p hp => by obtain ⟨z, hz, f1, f2, f3, f4⟩ := hS p hp; exact f3
  have eZ : ∀ p : Nat, p < 4 → M (70 + 2 * p) 2 = M 88 p := fun p hp => by obtain ⟨z, hz, f1, f2, f3, f4⟩ := hS p hp; rw [f1, f2]
  refine pe_move2 hS.c (fun p q z1 z2 I J N hp hq ep eq e1 l1 e2 l2 eI eJ eN k1 k2 hG => ?_) (fun hG M1 h1 => ?_)
  · have em : ∀ c, c ≠ 71 + 2 * q → (upA M (71 + 2 * q) (va_cpy (M (71 + 2 * p)) (M (71 + 2 * q)) I J N)) c = M c := fun c hc => upA_o _ hc
    refine me_move2 (fun j hj => by rw [em 88 (by omega)]; exact hS.m j hj) (fun p' q' y1 y2 I' J' N' hp' hq' ep' eq' _ m1 _ m2 eI' eJ' eN' j1 j2 _ M2 d1 d2 d3 => ⟨rfl, ?_⟩) (fun g => absurd (by rw [em 87 (by omega), em 88 (by omega)]; exact mvG_congr eB eZ hG) g)
    have a1 := mv_inj (by omega) (by omega) ep ep'; have a2 := mv_inj (by omega) (by omega) eq eq'
    have a3 := mv_inj (by omega) (by omega) eI eI'; have a4 := mv_inj (by omega) (by omega) eJ eJ'; have a5 := mv_inj (by omega) (by omega) eN eN'
    subst a1; subst a2; subst a3; subst a4; subst a5
    have ed : ∀ c, c ≠ 89 → c ≠ 90 → M2 c = (upA M (71 + 2 * q') (va_cpy (M (71 + 2 * p')) (M (71 + 2 * q')) I' J' N')) c := fun c c1 c2 => d1 c (by simp [c1, c2])
    rw [em 89 (by omega)] at d2 d3
    refine inv3_sh hI (fun x x1 x2 x3 x4 x5 => by rw [ed x x4 x5, em x (by omega)]) (fun k hk => ?_)
    obtain ⟨y, hy, f1, f2, f3, f4⟩ := hS k hk
    refine ⟨y, hy, by rw [ed _ (by omega) (by omega), em _ (by omega)]; exact f1, by rw [ed _ (by omega) (by omega), em _ (by omega)]; exact f2, by rw [ed _ (by omega) (by omega), em _ (by omega), ed _ (by omega) (by omega), em _ (by omega)]; exact f3, fun x hx => ?_⟩
    rw [ed (71 + 2 * k) (by omega) (by omega)]
    by_cases e : k = q'
    · subst e
      rw [upA_same]
      by_cases g : J' ≤ x ∧ x < J' + N'
      · rw [pk_cpy_in g.1 g.2]
        obtain ⟨y2, hy2, r1, r2, r3, r4⟩ := hS p' hp
        have := d2 (x - J') (by omega)
        rw [show 40 * k + J' + (x - J') = 40 * k + x by omega] at this
        rw [this, r4 _ (by omega), show 40 * p' + (I' + (x - J')) = 40 * p' + I' + (x - J') by omega]
      · rw [pk_cpy_out (by omega), d3 _ (by omega)]; exact f4 x hx
    · rw [em _ (by omega), d3 _ (by omega)]; exact f4 x hx
  · have em : ∀ c, 79 ≤ c → M1 c = M c := fun c hc => h1.1 c (by simp <;> omega)
    refine me_move2 (fun j hj => by rw [em 88 (by omega)]; exact hS.m j hj) (fun p q z1 z2 I J N hp hq ep eq e1 l1 e2 l2 eI eJ eN k1 k2 hG2 => absurd (by rw [em 87 (by omega), em 88 (by omega)] at hG2; exact mvG_congr (fun p hp => (eB p hp).symm) (fun p hp => (eZ p hp).symm) hG2) hG) (fun _ M2 h2 => ⟨?_, hI.th h1 (pm_r h2 (by rw [em 87 (by omega)]; exact (mvE_congr eB).symm))⟩)
    rw [em 87 (by omega)]; exact mvE_congr eB
theorem z4_odds {q a c : Int32} (hI : Inv3 i M) : wp_X7_odds q a c M (fun r1 M1 => wp_X8_odds q a c M1 (fun r2 M2 => r1 = r2 ∧ Inv3 (i + 1) M2)) := by
  obtain ⟨n, b, t, V, h, hS⟩ := hI.2.1
  exact z_of4 (A := oddA (tvN 2 M) (tvN 7 M) h n V q a c) (W7 := wp_X7_odds q a c) (W8 := wp_X8_odds q a c) hI (fun K hk => C_odds hS hk) (fun M1 h1 K hk => G_odds (hS.gh (h1 80 rfl)) hk)
theorem z4_ofQuarrel {q c : Int32} (hI : Inv3 i M) : wp_X7_ofQuarrel q c M (fun r1 M1 => wp_X8_ofQuarrel q c M1 (fun r2 M2 => r1 = r2 ∧ Inv3 (i + 1) M2)) := by
  obtain ⟨n, b, t, V, h, hS⟩ := hI.2.1
  exact z_of4 (A := ofQA M h n V q c) (W7 := wp_X7_ofQuarrel q c) (W8 := wp_X8_ofQuarrel q c) hI (fun K hk => C_ofQuarrel hS hk) (fun M1 h1 K hk => G_ofQuarrel (hS.gh (h1 80 rfl)) hk)
theorem z4_off {a : Int32} (hI : Inv3 i M) : wp_X7_off a M (fun r1 M1 => wp_X8_off a M1 (fun r2 M2 => r1 = r2 ∧ Inv3 (i + 1) M2)) := by
  obtain ⟨n, b, t, V, h, hS⟩ := hI.2.1
  exact z_of4 (A := offA (tvN 2 M) (tvN 7 M) h n V a) (W7 := wp_X7_off a) (W8 := wp_X8_off a) hI (fun K hk => C_off hS hk) (fun M1 h1 K hk => G_off (hS.gh (h1 80 rfl)) hk)
theorem z4_pace {a c : Int32} (hI : Inv3 i M) : wp_X7_pace a c M (fun r1 M1 => wp_X8_pace a c M1 (fun r2 M2 => r1 = r2 ∧ Inv3 (i + 1) M2)) := by
  obtain ⟨n, b, t, V, h, hS⟩ := hI.2.1
  exact z_of4 (A := mstA (tvN 2 M) (tvN 7 M) h n 8 V a c) (W7 := wp_X7_pace a c) (W8 := wp_X8_pace a c) hI (fun K hk => C_pace hS hk) (fun M1 h1 K hk => G_pace (hS.gh (h1 80 rfl)) hk)
theorem z4_put {a c v : Int32} (hI : Inv3 i M) : wp_X7_put a c v M (fun r1 M1 => wp_X8_put a c v M1 (fun r2 M2 => r1 = r2 ∧ Inv3 (i + 1) M2)) := by
  obtain ⟨n, b, t, hN⟩ := hI.inv.2.1
  have hS := hI.2.2.1
  have inj : ∀ {p q : Nat} {v : Int32}, p < 41 → q < 41 → v = nI p → v = nI q → q = p := fun hp hq e1 e2 => (nI_eq (by omega) (by omega)).mp (e2.symm.trans e1)
  have hm : ∀ {M1 : Mem}, (∀ c, 79 ≤ c → M1 c = M c) → SMc M1 := fun h j hj => by rw [h 88 (by omega)]; exact hS.m j hj
  have sx : ∀ {M1 : Mem}, St SX M M1 → (∀ c, 79 ≤ c → M1 c = M c) := fun h1 c hc => h1 c (by simp <;> omega)
  refine pe_put hS.c (fun j z k hj ej ez hz hbt hk ek => ?_) (fun g M1 h1 => ?_) (fun j hj ej hb0 M1 h1 => ?_) (fun j z hj ej ez hz hbt g M1 h1 => ?_)
  · have em : ∀ c, c ≠ 71 + 2 * j → (up M (71 + 2 * j) k (narB (M (70 + 2 * j) 1) v)) c = M c := fun c hc => up_o _ hc
    have em2 : ∀ c, 79 ≤ c → (up M (71 + 2 * j) k (narB (M (70 + 2 * j) 1) v)) c = M c := fun c hc => em c (by omega)
    obtain ⟨z', hz', f1, f2, f3, f4⟩ := hS j hj
    have hzz : z' = z := (nI_eq (by omega) (by omega)).mp (f1.symm.trans ez)
    subst hzz
    refine me_put (hm em2) (fun j' z2 k' hj' ej' ez' hz2 hb' hk' ek' => ⟨rfl, ?_⟩) (fun g => absurd (by rw [ej, nI_toInt (by omega)]; omega) g) (fun j' hj' ej' hb' => ?_) (fun j' z2 hj' ej' ez2 hz2 hb' g => ?_)
    · have e1 := inj (by omega) (by omega) ej ej'; subst e1
      have e2 := inj (by omega) (by omega) ek ek'; subst e2
      refine inv3_sh hI (fun q q1 q2 q3 q4 q5 => by rw [up_o _ q4, em q (by omega)]) (fun p hp => ?_)
      obtain ⟨y, hy, r1, r2, r3, r4⟩ := hS p hp
      refine ⟨y, hy, by rw [up_o _ (by omega), em _ (by omega)]; exact r1, by rw [up_o _ (by omega), em _ (by omega)]; exact r2, by rw [up_o _ (by omega), em _ (by omega), up_o _ (by omega), em _ (by omega)]; exact r3, fun x hx => ?_⟩
      rw [up_o (i := 89) (71 + 2 * p) (by omega)]
      by_cases e3 : p = j' ∧ x = k'
      · obtain ⟨rfl, rfl⟩ := e3
        rw [up_same, up_same, em 87 (by omega), f3]
      · rw [up_slot (j := 40 * p + x) 89 (by omega), em 89 (by omega)]
        by_cases e4 : p = j'
        · subst e4
          rw [up_slot _ (by omega)]; exact r4 x hx
        · rw [em _ (by omega)]; exact r4 x hx
    · have e1 := inj (by omega) (by omega) ej ej'; subst e1
      rw [em 87 (by omega), ← f3] at hb'; exact absurd hb' hbt
    · have e1 := inj (by omega) (by omega) ej ej'; subst e1
      have hz3 : z2 = z' := (nI_eq (by omega) (by omega)).mp (ez2.symm.trans (by rw [em 88 (by omega)]; exact f2))
      subst hz3
      exact absurd (by rw [ek, nI_toInt (by omega)]; omega) g
  · have em := sx h1.1
    exact me_put (hm em) (fun j z k hj ej => absurd (by rw [ej, nI_toInt (by omega)]; omega) g) (fun _ M2 h2 => ⟨rfl, hI.th h1 h2⟩) (fun j hj ej => absurd (by rw [ej, nI_toInt (by omega)]; omega) g) (fun j z hj ej => absurd (by rw [ej, nI_toInt (by omega)]; omega) g)
  · have em := sx h1.1
    obtain ⟨z', hz', f1, f2, f3, f4⟩ := hS j hj
    refine me_put (hm em) (fun j' z2 k' hj' ej' ez' hz2 hb' => ?_) (fun g => absurd (by rw [ej, nI_toInt (by omega)]; omega) g) (fun j' hj' ej' hb' M2 h2 => ⟨rfl, hI.th h1 h2⟩) (fun j' z2 hj' ej' ez2 hz2 hb' => ?_)
    · have e1 := inj (by omega) (by omega) ej ej'; subst e1
      rw [em 87 (by omega), ← f3] at hb'; exact absurd hb0 hb'
    · have e1 := inj (by omega) (by omega) ej ej'; subst e1
      rw [em 87 (by omega), ← f3] at hb'; exact absurd hb0 hb'
  · have em := sx h1.1
    obtain ⟨z', hz', f1, f2, f3, f4⟩ := hS j hj
    have hzz : z' = z := (nI_eq (by omega) (by omega)).mp (f1.symm.trans ez)
    subst hzz
    refine me_put (hm em) (fun j' z2 k' hj' ej' ez' hz2 hb' hk' ek' => ?_) (fun g => absurd (by rw [ej, nI_toInt (by omega)]; omega) g) (fun j' hj' ej' hb' => ?_) (fun j' z2 hj' ej' ez2 hz2 hb' _ M2 h2 => ⟨rfl, hI.th h1 h2⟩)
    · have e1 := inj (by omega) (by omega) ej ej'; subst e1
      have hz3 : z2 = z' := (nI_eq (by omega) (by omega)).mp (ez'.symm.trans (by rw [em 88 (by omega)]; exact f2))
      subst hz3
      exact absurd (by rw [ek', nI_toInt (by omega)]; omega) g
    · have e1 := inj (by omega) (by omega) ej ej'; subst e1
      rw [em 87 (by omega), ← f3] at hb'; exact absurd hb' hbt
theorem z4_quarrel {km a e o : Int32} (hI : Inv3 i M) : wp_X7_quarrel km a e o M (fun r1 M1 => wp_X8_quarrel km a e o M1 (fun r2 M2 => r1 = r2 ∧ Inv3 (i + 1) M2)) := by
  obtain ⟨n, b, t, V, h, hS⟩ := hI.2.1
  have hN := hS.nw
  have hn := hS.rv.1
  refine x_quarrel hN.1.cn (fun hq h9 M1 c1 c2 c3 c4 c5 c6 c7 c8 c9 c10 => ?_) (fun g M1 p1 => y_quarrel (n := n) (by rw [p1.1 80 rfl]; exact hN.2.1) (fun hq => absurd hq g) (fun _ M2 p2 => ⟨rfl, hI.th p1 p2⟩) (fun hq => absurd hq g)) (fun hq h9 M1 p1 => y_quarrel (n := n) (by rw [p1.1 80 rfl]; exact hN.2.1) (fun _ g => by omega) (fun g => absurd hq g) (fun _ _ M2 p2 => ⟨rfl, hI.th p1 p2⟩))
  have m1 : ∀ c, c ≠ 12 → c ≠ 14 + n → M1 c = M c := fun c g1 g2 => c1 c (by simp [g1, g2])
  refine y_quarrel (n := n) (by rw [m1 80 (by omega) (by omega)]; exact hN.2.1) (fun _ _ M2 d1 d2 d3 d4 d5 d6 d7 d8 d9 d10 => ⟨rfl, ?_⟩) (fun g => absurd hq g) (fun _ g => by omega)
  obtain ⟨⟨k1, k2⟩, ⟨k3, k4⟩, ⟨k5, k6⟩, k7, k8⟩ := hq
  obtain ⟨x, hx, rfl⟩ := nat_of (x := km) 69 k1 k2 (by decide)
  obtain ⟨y, hy, rfl⟩ := nat_of (x := a) 9 k3 k4 (by decide)
  obtain ⟨z, hz, rfl⟩ := nat_of (x := e) 99 k5 k6 (by decide)
  rw [show (10 : Int32) = nI 10 from rfl, pk_div (by omega) (by omega) (by omega)] at c4 d4
  rw [show (10 : Int32) = nI 10 from rfl, pk_rem (by omega) (by omega) (by omega)] at c5 d5
  have ex : ∀ c, c ≠ 80 → M2 c = M1 c := fun c hc => d1 c (by simp [hc])
  have es : ∀ c, c ≠ 12 → c ≠ 14 + n → c ≠ 80 → M2 c = M c := fun c g1 g2 g3 => by rw [ex c g3]; exact m1 c g1 g2
  have e8 : ∀ k, k ≠ 2 → (k < 11 + 7 * n ∨ 18 + 7 * n ≤ k) → M2 80 k = M 80 k := fun k g1 g2 => by rw [d3 k g1 g2, m1 80 (by omega) (by omega)]
  obtain ⟨v1, v2, v3, v4, v5, v6, v7⟩ := hS.rv
  obtain ⟨r1, r2, r3, r4, r5, r6⟩ := hS.1
  have s7 : M 12 7 = nI (V 9) := hS.2.1
  have hR := hS.2.2.1
  have hH := hS.hh
  refine hI.rest (fun c hc => es c (by simp at hc; omega) (by simp at hc; omega) (by simp at hc; omega)) (by rw [es 79 (by omega) (by omega) (by omega)]) (by rw [es 79 (by omega) (by omega) (by omega)]) (by rw [es 79 (by omega) (by omega) (by omega)]) (es 78 (by omega) (by omega) (by omega)) (es 83 (by omega) (by omega) (by omega)) (hS.num (n' := n + 1) (V' := vq n x y z V) (h' := fun q => if q = n then o else h q) (fun c g1 g2 g3 g4 g5 => es c (by omega) (by omega) (by omega)) (fun k hk => by rw [es 1 (by omega) (by omega) (by omega)]) (fun k hk => e8 k (by omega) (by omega)) (by rw [es 1 (by omega) (by omega) (by omega), e8 1 (by omega) (by omega)]; exact hS.bt.2.2.1) ⟨by rw [ex 12 (by omega)]; exact c2, ?_, ?_, ?_, ?_, fun q hq2 => ?_⟩ ?_ ⟨d2, fun q hq2 => ?_, fun k hk => ?_⟩ ⟨by omega, ?_, ?_, ?_, ?_, ?_, fun q hq2 => ?_⟩ ?_ (fun q hq2 => ?_))
  · rw [ex 12 (by omega), c3 4 (by omega), vq_lo (by omega)]; exact r2
  · rw [ex 12 (by omega), c3 5 (by omega), vq_lo (by omega)]; exact r3
  · rw [ex 12 (by omega), c3 6 (by omega), vq_lo (by omega)]; exact r4
  · rw [ex 12 (by omega), c3 8 (by omega), vq_lo (by omega)]; exact r5
  · rw [show 12 + 2 + q = 14 + q by omega]
    rcases Nat.lt_or_ge q n with g | g
    · have := r6 q g
      rw [show 1 + 11 + 2 + q = 14 + q by omega] at this
      rw [es (14 + q) (by omega) (by omega) (by omega), vq_lo (by omega), vq_lo (by omega), vq_lo (by omega), vq_lo (by omega), vq_lo (by omega), vq_lo (by omega)]
      show _ ∧ _ ∧ _ ∧ _ ∧ M (14 + q) 4 = (if q = n then o else h q) ∧ _
      rw [if_neg (by omega)]; exact this
    · have : q = n := by omega
      subst this
      rw [ex (14 + q) (by omega), vq_0, vq_1, vq_2, vq_3, vq_5, vq_6]
      show _ ∧ _ ∧ _ ∧ _ ∧ M1 (14 + q) 4 = (if q = q then o else h q) ∧ _
      rw [if_pos rfl]
      exact ⟨c4, c5, c6, c7, c8, c9, c10⟩
  · rw [ex 12 (by omega), c3 7 (by omega), vq_lo (by omega)]; exact s7
  · show M2 80 (15 + 7 * q) = (if q = n then o else h q)
    rcases Nat.lt_or_ge q n with g | g
    · rw [if_neg (by omega), e8 _ (by omega) (by omega)]; exact hR.2.1 q g
    · have : q = n := by omega
      subst this
      rw [if_pos rfl]; exact d8
  · rcases Nat.lt_or_ge k (11 + 7 * n) with g | g
    · have hk0 : NB n k := by
        rcases hk with h | h | ⟨q, w, q1, q2, q3, q4⟩
        · exact Or.inl h
        · exact Or.inr (Or.inl h)
        · exact Or.inr (Or.inr ⟨q, w, by omega, q2, q3, q4⟩)
      have : k ≠ 2 := by rcases hk with h | h | ⟨q, w, q1, q2, q3, q4⟩ <;> omega
      rw [vq_lo g, e8 k this (Or.inl g)]; exact hR.2.2 k hk0
    · have : ∃ w, w ≤ 6 ∧ w ≠ 4 ∧ k = 11 + w + 7 * n := by
        rcases hk with h | h | ⟨q, w, q1, q2, q3, q4⟩
        · omega
        · omega
        · exact ⟨w, q2, q3, by omega⟩
      obtain ⟨w, w6, w4, rfl⟩ := this
      rcases (by omega : w = 0 ∨ w = 1 ∨ w = 2 ∨ w = 3 ∨ w = 5 ∨ w = 6) with rfl | rfl | rfl | rfl | rfl | rfl
      · show M2 80 (11 + 7 * n) = nI (vq n x y z V (11 + 7 * n)); rw [vq_0]; exact d4
      · show M2 80 (12 + 7 * n) = nI (vq n x y z V (12 + 7 * n)); rw [vq_1]; exact d5
      · show M2 80 (13 + 7 * n) = nI (vq n x y z V (13 + 7 * n)); rw [vq_2]; exact d6
      · show M2 80 (14 + 7 * n) = nI (vq n x y z V (14 + 7 * n)); rw [vq_3]; exact d7
      · show M2 80 (16 + 7 * n) = nI (vq n x y z V (16 + 7 * n)); rw [vq_5]; exact d9
      · show M2 80 (17 + 7 * n) = nI (vq n x y z V (17 + 7 * n)); rw [vq_6]; exact d10
  · rw [vq_lo (by omega)]; exact v2
  · rw [vq_lo (by omega)]; exact v3
  · rw [vq_lo (by omega)]; exact v4
  · rw [vq_lo (by omega)]; exact v5
  · rw [vq_lo (by omega)]; exact v6
  · rcases Nat.lt_or_ge q n with g | g
    · rw [vq_lo (by omega), vq_lo (by omega), vq_lo (by omega), vq_lo (by omega), vq_lo (by omega), vq_lo (by omega)]; exact v7 q g
    · have : q = n := by omega
      subst this
      rw [vq_0, vq_1, vq_2, vq_3, vq_5, vq_6]; omega
  · rw [vq_lo (by omega)]; exact hS.v0
  · show (if q = n then o else h q) = -1 ∨ ∃ j : Nat, j < q ∧ (if q = n then o else h q) = nI j
    rcases Nat.lt_or_ge q n with g | g
    · rw [if_neg (by omega)]; exact hH q g
    · have : q = n := by omega
      subst this
      rw [if_pos rfl]
      rcases Int.lt_or_le o.toInt 0 with g0 | g0
      · exact Or.inl (Int32.toInt_inj.mp (by rw [show (-1 : Int32).toInt = -1 from rfl]; omega))
      · obtain ⟨j, hj, ej⟩ := nat_of (x := o) 8 g0 (by omega) (by decide)
        rw [ej, nI_toInt (by omega)] at k8
        exact Or.inr ⟨j, by omega, ej⟩
theorem z4_restore (hI : Inv3 i M) (hi : i < 2 ^ 29) : wp_X7_restore M (fun r1 M1 => wp_X8_restore M1 (fun r2 M2 => r1 = r2 ∧ Inv3 (i + 1) M2)) := by
  obtain ⟨m, n0, b0, t0, i1, i2, i3, i4, i5, i6, i7⟩ := hI.2.2.2.2
  unfold wp_X7_restore
  rw [i2]
  refine ⟨fun q => ?_, fun q => e7A (i := 2) (by omega) (by omega) (by decide) St.rf (fun M1 p1 => ?_)⟩
  · have hm : m ≠ 0 := fun e => q (by rw [e]; rfl)
    obtain ⟨V, h, hS⟩ := i7 hm
    refine e_cpw WF1 WF25 (by omega) i6 (fun M1 s1 hC => ?_)
    have k1 : ∀ c, (c < 1 ∨ 24 < c) → M1 c = M c := fun c hc => s1 c (by simp; omega)
    unfold wp_X8_restore
    have e3 : M1 79 3 = 1 := by rw [k1 79 (by omega)]; exact i5 hm
    refine ⟨fun _ => ?_, fun g => absurd (e3.symm.trans g) (by decide)⟩
    refine m_move rfl rfl (by decide) (fun M2 s2 r1 r2 => ?_)
    have k2 : ∀ c, c ≠ 80 → M2 c = M1 c := fun c hc => s2 c (by simp [hc])
    have ke : ∀ c, c ≠ 80 → (c < 1 ∨ 24 < c) → M2 c = M c := fun c c1 c2 => by rw [k2 c c1, k1 c c2]
    have k80 : ∀ k, k < 244 → M2 80 k = M 81 k := fun k hk => by rw [r1 k hk, k1 81 (by omega)]
    refine ⟨?_, hI.rest (fun c hc => ke c (by simp at hc; omega) (by simp at hc; omega)) (by rw [ke 79 (by omega) (by omega)]) (by rw [ke 79 (by omega) (by omega)]) (by rw [ke 79 (by omega) (by omega)]) (ke 78 (by omega) (by omega)) (ke 83 (by omega) (by omega)) (hS.copy (w := 1) (r2 := 80) hC (fun c c1 c2 => k2 c (by omega)) k80)⟩
    have : M1 (1 + 11) 6 = M (25 + 11) 6 := hC.1 6 (by omega) (by omega)
    rw [k80 0 (by omega), hS.2.2.1.2.2 0 (Or.inl rfl), ← hS.1.2.2.2.1]; exact this
  · have hm : m = 0 := (nI_eq (a := m) (b := 0) (by omega) (by omega)).mp q
    unfold wp_X8_restore
    have e3 : M1 79 3 = 0 := by rw [p1.1 79 rfl]; exact i4 hm
    exact ⟨fun g => absurd e3 g, fun _ => e8A (i := 2) (by omega) (by omega) (by decide) St.rf (fun M2 p2 => ⟨rfl, hI.th p1 p2⟩)⟩
theorem z4_seed {a : Int32} (hI : Inv3 i M) : wp_X7_seed a M (fun r1 M1 => wp_X8_seed a M1 (fun r2 M2 => r1 = r2 ∧ Inv3 (i + 1) M2)) := by
  obtain ⟨n, b, t, V, h, hS⟩ := hI.2.1
  obtain ⟨⟨b1, b2, b3⟩, ⟨t1, t2, t3⟩, hz, hT, hW⟩ := hS.bt
  unfold wp_X7_seed wp_X8_seed
  have e : ∀ c, c ≠ 1 → c ≠ 80 → (up (up M 1 7 a) 80 1 a) c = M c := fun c c1 c2 => by rw [up_o _ c2, up_o _ c1]
  have e1 : ∀ k, k ≠ 7 → (up (up M 1 7 a) 80 1 a) 1 k = M 1 k := fun k hk => by rw [up_cell (by omega), up_slot _ hk]
  have e8 : ∀ k, k ≠ 1 → (up (up M 1 7 a) 80 1 a) 80 k = M 80 k := fun k hk => by rw [up_slot _ hk, up_cell (by omega)]
  refine ⟨by rw [up_cell (by omega)]; exact hz, hI.rest (fun c hc => e c (by simp at hc; omega) (by simp at hc; omega)) (by rw [e 79 (by omega) (by omega)]) (by rw [e 79 (by omega) (by omega)]) (by rw [e 79 (by omega) (by omega)]) (e 78 (by omega) (by omega)) (e 83 (by omega) (by omega)) (hS.re2 (b' := b) (t' := t) (fun c c1 c2 => e c (by omega) (by omega)) (fun k k1 k2 k3 k4 => e8 k k1) ⟨b1, by rw [e1 5 (by omega)]; exact b2, by rw [e8 3 (by omega)]; exact b3⟩ ⟨t1, by rw [e1 6 (by omega)]; exact t2, by rw [e8 4 (by omega)]; exact t3⟩ (by rw [up_cell (by omega), up_same, up_same]) (fun j hj => by rw [e 23 (by omega) (by omega), e8 _ (by omega)]; exact hT j hj) (fun j hj => by rw [e 24 (by omega) (by omega), e8 _ (by omega)]; exact hW j hj))⟩
theorem z4_set {a v : Int32} (hI : Inv3 i M) : wp_X7_set a v M (fun r1 M1 => wp_X8_set a v M1 (fun r2 M2 => r1 = r2 ∧ Inv3 (i + 1) M2)) := by
  obtain ⟨n, b, t, V, h, hS⟩ := hI.2.1
  refine x_set (fun j x k s e1 e2 e3 e4 e5 => ?_) (fun g M1 p1 => y_set (fun j x k s e1 e2 e3 e4 e5 => absurd (VS_of e1 e2 e3 e4 e5) g) (fun _ M2 p2 => ⟨rfl, hI.th p1 p2⟩))
  refine y_set (fun j' x' k' s' e1' e2' e3' _ _ => ?_) (fun g => absurd (VS_of e1 e2 e3 e4 e5) g)
  have : j' = j := (nI_eq (by unfold SF at e3'; omega) (by unfold SF at e3; omega)).mp (e1'.symm.trans e1)
  have hs : s' = s := by unfold SF at e3 e3'; omega
  subst hs
  obtain ⟨q1, q2⟩ := set_sa hS e3 e4 e5
  rw [e2]
  have e : ∀ c, c ≠ 12 → c ≠ 80 → (up (up M 12 k (nI x)) 80 s' (nI x)) c = M c := fun c c1 c2 => by rw [up_o _ c2, up_o _ c1]
  exact ⟨by rw [up_cell (by omega)]; exact q1, hI.rest (fun c hc => e c (by simp at hc; omega) (by simp at hc; omega)) (by rw [e 79 (by omega) (by omega)]) (by rw [e 79 (by omega) (by omega)]) (by rw [e 79 (by omega) (by omega)]) (e 78 (by omega) (by omega)) (e 83 (by omega) (by omega)) q2⟩
theorem z4_sharp {q a : Int32} (hI : Inv3 i M) : wp_X7_sharp q a M (fun r1 M1 => wp_X8_sharp q a M1 (fun r2 M2 => r1 = r2 ∧ Inv3 (i + 1) M2)) := by
  obtain ⟨n, b, t, V, h, hS⟩ := hI.2.1
  exact z_of4 (A := shpA (tvN 2 M) (tvN 7 M) h n V q a) (W7 := wp_X7_sharp q a) (W8 := wp_X8_sharp q a) hI (fun K hk => C_sharp hS hk) (fun M1 h1 K hk => G_sharp (hS.gh (h1 80 rfl)) hk)
theorem z4_sheet {a c v : Int32} (hI : Inv3 i M) : wp_X7_sheet a c v M (fun r1 M1 => wp_X8_sheet a c v M1 (fun r2 M2 => r1 = r2 ∧ Inv3 (i + 1) M2)) := by
  obtain ⟨n, b, t, hN⟩ := hI.inv.2.1
  refine pe_sheet (fun j z hj ej hz h0 h1 M1 c1 c2 c3 c4 c5 => ?_) (fun hne M1 h1 => me_sheet (fun _ _ _ _ _ _ _ _ _ _ _ _ _ _ e => absurd e hne) (fun _ M2 h2 => ⟨rfl, hI.th h1 h2⟩))
  refine me_sheet (fun j' z' hj' ej' hz' h0' h1' M2 d1 d2 d3 d4 d5 d6 _ => ⟨rfl, ?_⟩) (fun hne => absurd c5 hne)
  have e1 : j' = j := (nI_eq (by omega) (by omega)).mp (ej'.symm.trans ej)
  subst e1
  have ezz : z' = z := by
    by_cases g : c = 0
    · rw [h0 g, h0' g]
    · exact (nI_eq (by omega) (by omega)).mp ((h1' g).symm.trans (h1 g))
  subst ezz
  have ec : ∀ q, q ≠ 70 + 2 * j' → q ≠ 71 + 2 * j' → M1 q = M q := fun q q1 q2 => c1 q (by simp [q1, q2])
  have ed : ∀ q, q ≠ 87 → q ≠ 88 → q ≠ 89 → M2 q = M1 q := fun q q1 q2 q3 => d1 q (by simp [q1, q2, q3])
  refine inv3_sh hI (fun q q1 q2 q3 q4 q5 => by rw [ed q q2 q3 q4, ec q (by omega) (by omega)]) (fun k hk => ?_)
  by_cases g : k = j'
  · subst g
    refine ⟨z', hz, by rw [ed _ (by omega) (by omega) (by omega)]; exact c3, d3, by rw [ed _ (by omega) (by omega) (by omega), c2, d2], fun x hx => ?_⟩
    rw [ed _ (by omega) (by omega) (by omega), c4 x hx, d5 x hx]
  · obtain ⟨y, hy, f1, f2, f3, f4⟩ := hI.2.2.1 k hk
    refine ⟨y, hy, by rw [ed _ (by omega) (by omega) (by omega), ec _ (by omega) (by omega)]; exact f1, by rw [(d4 k g).2, ec 88 (by omega) (by omega)]; exact f2, by rw [ed _ (by omega) (by omega) (by omega), ec _ (by omega) (by omega), (d4 k g).1, ec 87 (by omega) (by omega)]; exact f3, fun x hx => ?_⟩
    rw [ed _ (by omega) (by omega) (by omega), ec _ (by omega) (by omega), d6 _ (by omega), ec 89 (by omega) (by omega)]; exact f4 x hx
theorem z4_sparks {a c : Int32} (hI : Inv3 i M) : wp_X7_sparks a c M (fun r1 M1 => wp_X8_sparks a c M1 (fun r2 M2 => r1 = r2 ∧ Inv3 (i + 1) M2)) := by
  obtain ⟨n, b, t, V, h, hS⟩ := hI.2.1
  have hn := hS.rv.1
  have hH := hI.2.2.1
  have inj : ∀ {p q : Nat} {v : Int32}, p < 4 → q < 4 → v = nI p → v = nI q → q = p := fun hp hq e1 e2 => (nI_eq (by omega) (by omega)).mp (e2.symm.trans e1)
  have hm : ∀ {M1 : Mem}, St SX M M1 → SMc M1 := fun h j hj => by rw [h 88 rfl]; exact hH.m j hj
  have ok : ∀ {j : Nat}, j < 4 → a = nI j → 0 ≤ c.toInt → c.toInt ≤ 1 → ¬ ¬ ((0 ≤ a.toInt ∧ a.toInt ≤ 3) ∧ 0 ≤ c.toInt ∧ c.toInt ≤ 1) := fun hj e g1 g2 g => g ⟨by rw [e, nI_toInt (by omega)]; omega, g1, g2⟩
  have e8 : ∀ j : Nat, j < 4 → M (70 + 2 * j) 1 = M 87 j ∧ M (70 + 2 * j) 2 = M 88 j := fun j hj => by obtain ⟨z, hz, f1, f2, f3, f4⟩ := hH j hj; exact ⟨f3, by rw [f1, f2]⟩
  refine x_sparks hS hH.c (fun j hj ej g1 g2 ez hbt M1 p1 => ?_) (fun g M1 p1 => ?_) (fun j hj ej g1 g2 hd M1 p1 => ?_)
  · obtain ⟨z', hz', f1, f2, f3, f4⟩ := hH j hj
    refine y_sparks (hS.gh (p1.1 80 rfl)) (hm p1.1) (fun j' hj' ej' _ _ ez' hb' M2 p2 => ⟨?_, hI.th p1 p2⟩) (fun g => absurd g (ok hj ej g1 g2)) (fun j' hj' ej' _ _ hd => ?_)
    · have := inj hj hj' ej ej'; subst this
      rw [p1.1 89 rfl]
      have hp : setM (spkP (tvN 2 M) (tvN 7 M) h n V (M (71 + 2 * j'))) 10 = setM (spkP (tvN 2 M) (tvN 7 M) h n V (fun k => M 89 (40 * j' + k))) 10 := setM_congr 10 (fun q _ => eqE_congr n (fun k hk => f4 k (by omega)) (fun _ _ => rfl))
      unfold spkV
      rw [hp]
    · have := inj hj hj' ej ej'; subst this
      rw [p1.1 87 rfl, p1.1 88 rfl, ← (e8 j' hj).1, ← (e8 j' hj).2] at hd
      rcases hd with hd | hd
      · exact absurd hd hbt
      · exact absurd ez hd
  · exact y_sparks (hS.gh (p1.1 80 rfl)) (hm p1.1) (fun j hj ej g1 g2 => absurd g (ok hj ej g1 g2)) (fun _ M2 p2 => ⟨rfl, hI.th p1 p2⟩) (fun j hj ej g1 g2 => absurd g (ok hj ej g1 g2))
  · refine y_sparks (hS.gh (p1.1 80 rfl)) (hm p1.1) (fun j' hj' ej' _ _ ez' hb' => ?_) (fun g => absurd g (ok hj ej g1 g2)) (fun j' hj' ej' _ _ hd M2 p2 => ⟨rfl, hI.th p1 p2⟩)
    have := inj hj hj' ej ej'; subst this
    rw [p1.1 87 rfl, ← (e8 j' hj).1] at hb'
    rw [p1.1 88 rfl, ← (e8 j' hj).2] at ez'
    rcases hd with hd | hd
    · exact absurd hd hb'
    · exact absurd ez' hd
theorem z4_start {a c : Int32} (hI : Inv3 i M) : wp_X7_start a c M (fun r1 M1 => wp_X8_start a c M1 (fun r2 M2 => r1 = r2 ∧ Inv3 (i + 1) M2)) := by
  obtain ⟨n, b, t, V, h, hS⟩ := hI.2.1
  exact z_of4 (A := mstA (tvN 2 M) (tvN 7 M) h n 7 V a c) (W7 := wp_X7_start a c) (W8 := wp_X8_start a c) hI (fun K hk => C_start hS hk) (fun M1 h1 K hk => G_start (hS.gh (h1 80 rfl)) hk)
theorem z4_tell {a : Int32} (hI : Inv3 i M) : wp_X7_tell a M (fun r1 M1 => wp_X8_tell a M1 (fun r2 M2 => r1 = r2 ∧ Inv3 (i + 1) M2)) := by
  obtain ⟨n, b, t, V, h, hS⟩ := hI.2.1
  obtain ⟨⟨b1, b2, b3⟩, ⟨t1, t2, t3⟩, hz, hT, hW⟩ := hS.bt
  unfold wp_X7_tell
  rw [t2]
  refine pk_lt t 20 (fun h20 => ⟨vp_in_nI h20 (by decide), ?_⟩) (fun h20 => e7A (i := 4) (by omega) (by omega) (by decide) St.rf (fun M1 p1 => ?_))
  · rw [up_same, up_cell (by omega), t2, nI_1, nI_clamp (by omega)]
    unfold wp_X8_tell
    dsimp only
    have e4 : (up (up M 24 t a) 1 6 (nI (t + 1))) 80 4 = nI t := by rw [up_cell (by omega), up_cell (by omega)]; exact t3
    rw [e4, show (124 : Int32) = nI 124 from rfl, nI_add, nI_clamp (by omega)]
    refine ⟨fun _ => ⟨vp_in_nI (by omega) (by decide), ?_⟩, fun q => absurd ((nI_eq (a := t) (b := 20) (by omega) (by omega)).mp q) (by omega)⟩
    rw [up_same, up_slot 80 (show 4 ≠ 124 + t by omega), e4, nI_1]
    have e : ∀ c, c ≠ 1 → c ≠ 24 → c ≠ 80 → (up (up (up (up M 24 t a) 1 6 (nI (t + 1))) 80 (124 + t) a) 80 4 (nI (t + 1))) c = M c := fun c c1 c2 c3 => by rw [up_o _ c3, up_o _ c3, up_o _ c1, up_o _ c2]
    have e1 : ∀ k, k ≠ 6 → (up (up (up (up M 24 t a) 1 6 (nI (t + 1))) 80 (124 + t) a) 80 4 (nI (t + 1))) 1 k = M 1 k := fun k hk => by rw [up_cell (by omega), up_cell (by omega), up_slot _ hk, up_cell (by omega)]
    have e8 : ∀ k, k ≠ 4 → k ≠ 124 + t → (up (up (up (up M 24 t a) 1 6 (nI (t + 1))) 80 (124 + t) a) 80 4 (nI (t + 1))) 80 k = M 80 k := fun k k1 k2 => by rw [up_slot _ k1, up_slot _ k2, up_cell (by omega), up_cell (by omega)]
    refine ⟨rfl, hI.rest (fun c hc => e c (by simp at hc; omega) (by simp at hc; omega) (by simp at hc; omega)) (by rw [e 79 (by omega) (by omega) (by omega)]) (by rw [e 79 (by omega) (by omega) (by omega)]) (by rw [e 79 (by omega) (by omega) (by omega)]) (e 78 (by omega) (by omega) (by omega)) (e 83 (by omega) (by omega) (by omega)) (hS.re2 (b' := b) (t' := t + 1) (fun c c1 c2 => e c (by omega) (by omega) (by omega)) (fun k k1 k2 k3 k4 => e8 k k3 (by omega)) ⟨b1, by rw [e1 5 (by omega)]; exact b2, by rw [e8 3 (by omega) (by omega)]; exact b3⟩ ⟨by omega, by rw [up_cell (by omega), up_cell (by omega), up_same], up_same⟩ (by rw [e1 7 (by omega), e8 1 (by omega) (by omega)]; exact hz) (fun j hj => by rw [e 23 (by omega) (by omega) (by omega), e8 _ (by omega) (by omega)]; exact hT j hj) (fun j hj => ?_))⟩
    rw [up_cell (b := 24) (by omega), up_cell (b := 24) (by omega), up_cell (b := 24) (by omega)]
    by_cases g : j = t
    · subst g; rw [up_same, up_slot 80 (show 124 + j ≠ 4 by omega), up_same]
    · rw [up_slot _ g, e8 _ (by omega) (by omega)]; exact hW j (by omega)
  · have : t = 20 := by omega
    subst this
    unfold wp_X8_tell
    dsimp only
    have e4 : M1 80 4 = nI 20 := by rw [p1.1 80 rfl]; exact t3
    rw [e4]
    exact ⟨fun q => absurd rfl q, fun _ => e8A (i := 4) (by omega) (by omega) (by decide) St.rf (fun M2 p2 => ⟨rfl, hI.th p1 p2⟩)⟩
theorem z4_text {a : Int32} (hI : Inv3 i M) : wp_X7_text a M (fun r1 M1 => wp_X8_text a M1 (fun r2 M2 => r1 = r2 ∧ Inv3 (i + 1) M2)) := by
  obtain ⟨n, b, t, V, h, hS⟩ := hI.2.1
  have hn := hS.rv.1
  obtain ⟨⟨b1, b2, b3⟩, ⟨t1, t2, t3⟩, hz, hT, hW⟩ := hS.bt
  by_cases hc : 0 ≤ a.toInt ∧ a.toInt ≤ 1
  · obtain ⟨u, hu, rfl⟩ := nat_of (x := a) 1 hc.1 hc.2 (by decide)
    refine e_ctext (b := b) (T := M 23) b1 (by omega) b2 (fun _ _ => rfl) (fun e1 e2 M1 s1 k1 k5 hC => ?_) (fun hn0 M1 s1 k1 k5 => ?_)
    · have x1 : ∀ c, c ≠ 1 → (c < 2 + 5 * u ∨ 5 + 5 * u < c) → (c < 60 ∨ 66 < c) → M1 c = M c := fun c c1 c2 c3 => s1 c (by simp; omega)
      have e80 : M1 80 = M 80 := x1 80 (by omega) (by omega) (by omega)
      refine e_mtext (b := b) (T := M 23) b1 (by omega) (by rw [e80]; exact b3) (fun j hj => by rw [e80]; exact (hT j hj).symm) (fun _ _ M2 s2 g2 r2 => ⟨rfl, ?_⟩) (fun hn => absurd ⟨e1, e2⟩ hn)
      generalize (rdS (M 23) b u).2.2.1 = z at hC r2
      generalize (rdS (M 23) b u).2.2.2 = f at hC r2
      have hz50 : z ≤ 50 := hC.2.1
      rw [e80] at r2
      have y1 : ∀ c, c ≠ 79 → c ≠ 80 → c ≠ 84 → M2 c = M1 c := fun c c1 c2 c3 => s2 c (by simp [c1, c2, c3])
      have lo : ∀ k, k ≠ 3 → k ≠ 5 + u → (k < 144 + 50 * u ∨ 144 + 50 * u + z ≤ k) → M2 80 k = M 80 k := fun k k1 k2 k3 => by rw [r2]; exact rowT_lo k1 k2 k3
      have tq : TQ (2 + 5 * u) u (M2 80) M2 := by
        have h1 : TQ (2 + 5 * u) u (M2 80) M1 := hC.tq (by rw [r2]; exact rowT_5) (fun j hj => by rw [r2]; exact rowT_t (by omega) hj)
        exact h1.keep (y1 _ (by omega) (by omega) (by omega)) (y1 _ (by omega) (by omega) (by omega)) (y1 _ (by omega) (by omega) (by omega)) (y1 _ (by omega) (by omega) (by omega)) rfl (fun _ _ => rfl)
      have yo : ∀ c, c ≠ 1 → (c < 2 + 5 * u ∨ 5 + 5 * u < c) → (c < 60 ∨ 66 < c) → c ≠ 79 → c ≠ 80 → c ≠ 84 → M2 c = M c := fun c c1 c2 c3 c4 c5 c6 => by rw [y1 c c4 c5 c6, x1 c c1 c2 c3]
      have q0 : TQ 2 0 (M2 80) M2 := by
        rcases (by omega : u = 0 ∨ u = 1) with rfl | rfl
        · exact tq
        · exact hS.t0.keep (yo _ (by omega) (by omega) (by omega) (by omega) (by omega) (by omega)) (yo _ (by omega) (by omega) (by omega) (by omega) (by omega) (by omega)) (yo _ (by omega) (by omega) (by omega) (by omega) (by omega) (by omega)) (yo _ (by omega) (by omega) (by omega) (by omega) (by omega) (by omega)) (lo _ (by omega) (by omega) (by omega)) (fun j hj => lo _ (by omega) (by omega) (by omega))
      have q1 : TQ 7 1 (M2 80) M2 := by
        rcases (by omega : u = 0 ∨ u = 1) with rfl | rfl
        · exact hS.t1.keep (yo _ (by omega) (by omega) (by omega) (by omega) (by omega) (by omega)) (yo _ (by omega) (by omega) (by omega) (by omega) (by omega) (by omega)) (yo _ (by omega) (by omega) (by omega) (by omega) (by omega) (by omega)) (yo _ (by omega) (by omega) (by omega) (by omega) (by omega) (by omega)) (lo _ (by omega) (by omega) (by omega)) (fun j hj => lo _ (by omega) (by omega) (by omega))
        · exact tq
      have w1 : ∀ k, k ≠ 5 → M2 1 k = M 1 k := fun k hk => by rw [y1 1 (by omega) (by omega) (by omega)]; exact k1 k hk
      have r79 : ∀ k, k < 6 → M2 79 k = M 79 k := fun k hk => by rw [g2 k (Or.inl hk), x1 79 (by omega) (by omega) (by omega)]
      refine hI.rest (fun c hc => yo c (by simp at hc; omega) (by simp at hc; omega) (by simp at hc; omega) (by simp at hc; omega) (by simp at hc; omega) (by simp at hc; omega)) (r79 3 (by omega)) (r79 4 (by omega)) (by rw [g2 20 (by omega), x1 79 (by omega) (by omega) (by omega)]) (yo 78 (by omega) (by omega) (by omega) (by omega) (by omega) (by omega)) (yo 83 (by omega) (by omega) (by omega) (by omega) (by omega) (by omega)) (hS.re (b' := 0) (t' := t) (fun c c1 c2 => yo c (by omega) (by omega) (by omega) (by omega) (by omega) (by omega)) (fun k k1 k2 k3 k4 k5 k6 => lo k k3 (by omega) (by omega)) q0 q1 ⟨by omega, by rw [y1 1 (by omega) (by omega) (by omega)]; exact k5, ?_⟩ ⟨t1, by rw [w1 6 (by omega)]; exact t2, by rw [lo 4 (by omega) (by omega) (by omega)]; exact t3⟩ (by rw [w1 7 (by omega), lo 1 (by omega) (by omega) (by omega)]; exact hz) (fun j hj => absurd hj (Nat.not_lt_zero j)) (fun j hj => by rw [yo 24 (by omega) (by omega) (by omega) (by omega) (by omega) (by omega), lo _ (by omega) (by omega) (by omega)]; exact hW j hj))
      rw [r2]; unfold rowT; rw [if_pos rfl]; rfl
    · have x1 : ∀ c, c ≠ 1 → (c < 60 ∨ 66 < c) → M1 c = M c := fun c c1 c2 => s1 c (by simp; omega)
      have e80 : M1 80 = M 80 := x1 80 (by omega) (by omega)
      refine e_mtext (b := b) (T := M 23) b1 (by omega) (by rw [e80]; exact b3) (fun j hj => by rw [e80]; exact (hT j hj).symm) (fun e1 e2 => absurd ⟨e1, e2⟩ hn0) (fun _ M2 s2 g2 r2 => ⟨rfl, ?_⟩)
      rw [e80] at r2
      have y1 : ∀ c, c ≠ 79 → c ≠ 80 → c ≠ 84 → M2 c = M1 c := fun c c1 c2 c3 => s2 c (by simp [c1, c2, c3])
      have yo : ∀ c, c ≠ 1 → (c < 60 ∨ 66 < c) → c ≠ 79 → c ≠ 80 → c ≠ 84 → M2 c = M c := fun c c1 c2 c3 c4 c5 => by rw [y1 c c3 c4 c5, x1 c c1 c2]
      have lo : ∀ k, k ≠ 3 → M2 80 k = M 80 k := fun k hk => by rw [r2]; exact row3_o hk
      have w1 : ∀ k, k ≠ 5 → M2 1 k = M 1 k := fun k hk => by rw [y1 1 (by omega) (by omega) (by omega)]; exact k1 k hk
      have r79 : ∀ k, (k < 6 ∨ 11 < k) → M2 79 k = M 79 k := fun k hk => by rw [g2 k hk, x1 79 (by omega) (by omega)]
      have yt : ∀ c, 2 ≤ c → c ≤ 24 → M2 c = M c := fun c c1 c2 => yo c (by omega) (by omega) (by omega) (by omega) (by omega)
      refine hI.rest (fun c hc => yo c (by simp at hc; omega) (by simp at hc; omega) (by simp at hc; omega) (by simp at hc; omega) (by simp at hc; omega)) (r79 3 (by omega)) (r79 4 (by omega)) (r79 20 (by omega)) (yo 78 (by omega) (by omega) (by omega) (by omega) (by omega)) (yo 83 (by omega) (by omega) (by omega) (by omega) (by omega)) (hS.re (b' := 0) (t' := t) (fun c c1 c2 => yt c (by omega) (by omega)) (fun k k1 k2 k3 k4 k5 k6 => lo k k3) (hS.t0.keep (yt _ (by omega) (by omega)) (yt _ (by omega) (by omega)) (yt _ (by omega) (by omega)) (yt _ (by omega) (by omega)) (lo _ (by omega)) (fun j hj => lo _ (by omega))) (hS.t1.keep (yt _ (by omega) (by omega)) (yt _ (by omega) (by omega)) (yt _ (by omega) (by omega)) (yt _ (by omega) (by omega)) (lo _ (by omega)) (fun j hj => lo _ (by omega))) ⟨by omega, by rw [y1 1 (by omega) (by omega) (by omega)]; exact k5, by rw [r2]; rfl⟩ ⟨t1, by rw [w1 6 (by omega)]; exact t2, by rw [lo 4 (by omega)]; exact t3⟩ (by rw [w1 7 (by omega), lo 1 (by omega)]; exact hz) (fun j hj => absurd hj (Nat.not_lt_zero j)) (fun j hj => by rw [yt 24 (by omega) (by omega), lo _ (by omega)]; exact hW j hj))
  · unfold wp_X7_text
    refine w7n 0 1 (by decide) (by decide) (fun g1 g2 => absurd ⟨g1, g2⟩ hc) (fun _ => e7A (i := 1) (by omega) (by omega) (by decide) St.rf (fun M1 p1 => ?_))
    unfold wp_X8_text
    exact w8n 0 1 (by decide) (by decide) (fun g1 g2 => absurd ⟨g1, g2⟩ hc) (fun _ => e8A (i := 1) (by omega) (by omega) (by decide) St.rf (fun M2 p2 => ⟨rfl, hI.th p1 p2⟩))
theorem z4_then {a q c : Int32} (hI : Inv3 i M) : wp_X7_then a q c M (fun r1 M1 => wp_X8_then a q c M1 (fun r2 M2 => r1 = r2 ∧ Inv3 (i + 1) M2)) := by
  obtain ⟨n, b, t, V, h, hS⟩ := hI.2.1
  exact z_of4 (A := thenA (tvN 2 M) (tvN 7 M) h n V a q c) (W7 := wp_X7_then a q c) (W8 := wp_X8_then a q c) hI (fun K hk => C_then hS hk) (fun M1 h1 K hk => G_then (hS.gh (h1 80 rfl)) hk)
theorem z4_told {a : Int32} (hI : Inv3 i M) : wp_X7_told a M (fun r1 M1 => wp_X8_told a M1 (fun r2 M2 => r1 = r2 ∧ Inv3 (i + 1) M2)) := by
  unfold wp_X7_told
  refine w7z 1 5 (by decide) (by decide) (fun g1 g2 => ?_) (fun g => e7A (i := 1) (by omega) (by omega) (by decide) St.rf (fun M1 p1 => ?_))
  · obtain ⟨j, hj, rfl⟩ := nat_of (x := a) 5 (by omega) g2 (by decide)
    rw [nI_clamp (by omega)]
    refine ⟨vp_in_nI (by omega) (by decide), ?_⟩
    unfold wp_X8_told
    refine w8z 1 5 (by decide) (by decide) (fun _ _ => ?_) (fun g => absurd ⟨g1, g2⟩ g)
    rw [nI_clamp (by omega)]
    exact ⟨vp_in_nI (by omega) (by decide), hI.1.2 j (by omega), hI.th (PC.of St.rf) (PM.of St.rf)⟩
  · unfold wp_X8_told
    exact w8z 1 5 (by decide) (by decide) (fun g1 g2 => absurd ⟨g1, g2⟩ g) (fun _ => e8A (i := 1) (by omega) (by omega) (by decide) St.rf (fun M2 p2 => ⟨rfl, hI.th p1 p2⟩))
theorem z4_trace {a : Int32} (hI : Inv3 i M) : wp_X7_trace a M (fun r1 M1 => wp_X8_trace a M1 (fun r2 M2 => r1 = r2 ∧ Inv3 (i + 1) M2)) := by
  obtain ⟨n, x, t, hN⟩ := hI.inv.2.1
  obtain ⟨z, hz, e1, e2, e3⟩ := hI.2.2.2.1
  refine pe_trace hz e1 (fun j hj ej => ?_) (fun g M1 h1 => ?_)
  · refine me_trace hz e2 (fun j' hj' ej' => ⟨?_, hI.th (PC.of St.rf) (PM.of St.rf)⟩) (fun g => absurd (by rw [ej, nI_toInt (by omega)]; omega) g)
    have : j' = j := (nI_eq (by omega) (by omega)).mp (ej'.symm.trans ej)
    subst this; exact e3 j' hj
  · have em : ∀ c, 79 ≤ c → M1 c = M c := fun c hc => h1.1 c (by simp <;> omega)
    exact me_trace hz (by rw [em 79 (by omega)]; exact e2) (fun j hj ej => absurd (by rw [ej, nI_toInt (by omega)]; omega) g) (fun _ M2 h2 => ⟨rfl, hI.th h1 h2⟩)
theorem z4_voice {a c x : Int32} (hI : Inv3 i M) : wp_X7_voice a c x M (fun r1 M1 => wp_X8_voice a c x M1 (fun r2 M2 => r1 = r2 ∧ Inv3 (i + 1) M2)) := by
  obtain ⟨n, b, t, hN⟩ := hI.inv.2.1
  obtain ⟨n0, b0, t0, V0, h0, hA⟩ := hI.2.1
  have hn := hN.1.1
  have hK : ∀ q : Nat, q < n → KindOK (M (14 + q) 0) := fun q hq => by have := (hN.1.2.2.2.2.2.2.1 q hq).2; rwa [show 1 + 13 + q = 14 + q by omega] at this
  refine pe_voice hN.1.cn hK (fun j k v hj ej hk ek hv ev M1 h1 => ?_) (fun g M1 h1 => ?_)
  · have ec : ∀ c, c ≠ 67 → c ≠ 68 → M1 c = M c := fun c c1 c2 => h1.1 c (by simp [c1, c2])
    have em : M1 80 = M 80 := ec 80 (by omega) (by omega)
    refine me_voice (by rw [em]; exact hN.2.1) (hN.km em) (fun j' k' v' hj' ej' hk' ek' hv' ev' M2 h2 => ?_) (fun g => absurd ⟨by rw [ej, nI_toInt (by omega)]; omega, by rw [ev, nI_toInt (by omega)]; omega⟩ g)
    have e1 : j' = j := (nI_eq (by omega) (by omega)).mp (ej'.symm.trans ej)
    have e2 : v' = v := (nI_eq (by omega) (by omega)).mp (ev'.symm.trans ev)
    subst e1; subst e2
    obtain ⟨f0, f1, f2⟩ := hN.2.2.2.2.2.2 j' hj
    rw [em] at ek'
    rw [show 1 + 13 + j' = 14 + j' by omega] at f0 f1
    rw [ek, ek'] at f0
    have e3 : k = k' := (nI_eq (by omega) (by omega)).mp f0
    subst e3
    have es : ∀ c, c ≠ 67 → c ≠ 68 → c ≠ 79 → c ≠ 91 → M2 c = M c := fun c c1 c2 c3 c4 => by rw [h2.1 c (by simp [c3, c4])]; exact ec c c1 c2
    refine ⟨by rw [em, f1], hI.1.keep (es _ (by omega) (by omega) (by omega) (by omega)) (es _ (by omega) (by omega) (by omega) (by omega)) (es _ (by omega) (by omega) (by omega) (by omega)), ⟨n0, b0, t0, V0, h0, hA.keep (fun c c1 c2 _ _ => es c (by omega) (by omega) (by omega) (by omega)) (es _ (by omega) (by omega) (by omega) (by omega))⟩, hI.2.2.1.keep (fun c c1 c2 => es c (by omega) (by omega) (by omega) (by omega)) (es _ (by omega) (by omega) (by omega) (by omega)) (es _ (by omega) (by omega) (by omega) (by omega)) (es _ (by omega) (by omega) (by omega) (by omega)), ⟨(vL k v').length, by have := vL_len k v'; omega, by rw [h2.1 67 rfl]; exact h1.2.1, h2.2.1, fun q hq => ?_⟩, hI.2.2.2.2.keep (es _ (by omega) (by omega) (by omega) (by omega)) (h2.2.2.2.2.2.2.1.trans (by rw [ec 79 (by omega) (by omega)])) (h2.2.2.2.2.2.2.2.trans (by rw [ec 79 (by omega) (by omega)])) (fun c c1 c2 _ _ => es c (by omega) (by omega) (by omega) (by omega)) (es _ (by omega) (by omega) (by omega) (by omega))⟩
    rw [h2.1 68 rfl, h1.2.2.2.2.2 q hq, h2.2.2.2.2.2.1 q hq]
  · have em : M1 80 = M 80 := h1.1 80 rfl
    exact me_voice (by rw [em]; exact hN.2.1) (hN.km em) (fun j k v hj ej hk ek hv ev => absurd ⟨by rw [ej, nI_toInt (by omega)]; omega, by rw [ev, nI_toInt (by omega)]; omega⟩ g) (fun _ M2 h2 => ⟨rfl, hI.th h1 h2⟩)
theorem z4_when {q : Int32} (hI : Inv3 i M) : wp_X7_when q M (fun r1 M1 => wp_X8_when q M1 (fun r2 M2 => r1 = r2 ∧ Inv3 (i + 1) M2)) := by
  obtain ⟨n, b, t, V, h, hS⟩ := hI.2.1
  exact z_of4 (A := whenA (tvN 2 M) (tvN 7 M) h n V q) (W7 := wp_X7_when q) (W8 := wp_X8_when q) hI (fun K hk => C_when hS hk) (fun M1 h1 K hk => G_when (hS.gh (h1 80 rfl)) hk)
end Z4
