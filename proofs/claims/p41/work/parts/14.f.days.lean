theorem SC.keep {n : Nat} {V : Nat → Nat} {h : Nat → Int32} {M M1 : Mem} (hS : SC n V h M) (hk : ∀ c, 2 ≤ c → c ≤ 22 → c ≠ 6 → c ≠ 11 → M1 c = M c) : SC n V h M1 := by
  obtain ⟨s1, s2, s3, s4, s5, s6⟩ := hS
  exact ⟨s1.same s3.1 (fun c c1 c2 => hk c (by omega) (by omega) (by omega) (by omega)), by rw [hk 12 (by omega) (by omega) (by omega) (by omega)]; exact s2, s3, s4, tc_keep (hk 2 (by omega) (by omega) (by omega) (by omega)) (hk 3 (by omega) (by omega) (by omega) (by omega)) (hk 4 (by omega) (by omega) (by omega) (by omega)) (hk 5 (by omega) (by omega) (by omega) (by omega)) s5, tc_keep (hk 7 (by omega) (by omega) (by omega) (by omega)) (hk 8 (by omega) (by omega) (by omega) (by omega)) (hk 9 (by omega) (by omega) (by omega) (by omega)) (hk 10 (by omega) (by omega) (by omega) (by omega)) s6⟩
theorem SC.day {n : Nat} {V V' : Nat → Nat} {h : Nat → Int32} {M M1 : Mem} {K : Mem → Prop} (hS : SC n V h M) (hs : St (fun b => SD 12 b || b == 1) M M1) (hG : RG 12 n h V' M1) (h7 : M1 12 7 = nI (V' 9)) (hV : RV n V') (hk : ∀ M2, St (fun b => SD 12 b || b == 1) M M2 → M2 1 = M1 1 → RG 12 n h (dayN (tvN 2 M) (tvN 7 M) true h n V') M2 → M2 12 7 = nI (dayN (tvN 2 M) (tvN 7 M) true h n V' 9) → K M2) : wp_X0_passDay 12 1 M1 K := by
  have e : ∀ c, 2 ≤ c → c ≤ 10 → c ≠ 6 → M1 c = M c := fun c c1 c2 c3 => hs c (by simp; omega)
  have x2 : tvN 2 M1 = tvN 2 M := tvN_keep (e 2 (by omega) (by omega) (by omega)) (e 3 (by omega) (by omega) (by omega)) (e 4 (by omega) (by omega) (by omega)) (e 5 (by omega) (by omega) (by omega))
  have x7 : tvN 7 M1 = tvN 7 M := tvN_keep (e 7 (by omega) (by omega) (by omega)) (e 8 (by omega) (by omega) (by omega)) (e 9 (by omega) (by omega) (by omega)) (e 10 (by omega) (by omega) (by omega))
  rw [← x2, ← x7] at hk
  refine e_day (wh := true) rfl GF12 hG h7 hV hS.hh (tc_keep (e 2 (by omega) (by omega) (by omega)) (e 3 (by omega) (by omega) (by omega)) (e 4 (by omega) (by omega) (by omega)) (e 5 (by omega) (by omega) (by omega)) hS.2.2.2.2.1) (tc_keep (e 7 (by omega) (by omega) (by omega)) (e 8 (by omega) (by omega) (by omega)) (e 9 (by omega) (by omega) (by omega)) (e 10 (by omega) (by omega) (by omega)) hS.2.2.2.2.2) (fun M2 s2 g7 r2 => hk M2 (hs.tr (s2.w (fun c hc => by simp at hc ⊢; omega))) (s2 1 rfl) r2 g7)
theorem x_days {n : Nat} {V : Nat → Nat} {h : Nat → Int32} {M : Mem} {K : Int32 → Mem → Prop} {a : Int32} (hS : SC n V h M) (h9 : V 0 ≤ 9999) (hg : ∀ N : Nat, 1 ≤ N → N ≤ 60 → a = nI N → V 0 + N ≤ 9999 → ∀ M1, St (fun b => SD 12 b || b == 1) M M1 → M1 1 = M 1 → RG 12 n h (passN (tvN 2 M) (tvN 7 M) true h n N V) M1 → M1 12 7 = nI (passN (tvN 2 M) (tvN 7 M) true h n N V 9) → K (nI (pcN (endM (passN (tvN 2 M) (tvN 7 M) true h n N V) n))) M1)
    (h1 : ¬ (1 ≤ a.toInt ∧ a.toInt ≤ 60) → ∀ M1, PC 1 M M1 → K (erA 1).1 M1) (h3 : ∀ N : Nat, 1 ≤ N → N ≤ 60 → a = nI N → 9999 < V 0 + N → ∀ M1, PC 3 M M1 → K (erA 3).1 M1) : wp_X7_days a M K := by
  unfold wp_X7_days
  refine w7n 1 60 (by decide) (by decide) (fun g1 g2 => ?_) (fun g => e7A (i := 1) (by omega) (by omega) (by decide) St.rf (h1 g))
  obtain ⟨N, hN, rfl⟩ := nat_of (x := a) 60 (by omega) g2 (by decide)
  rw [nI_toInt (by omega)] at g1
  have e6 : M 12 6 = nI (V 0) := hS.1.2.2.2.1
  rw [e6, nI_add]
  refine pk_le (V 0 + N) 9999 (fun q => ?_) (fun q => e7A (i := 3) (by omega) (by omega) (by decide) St.rf (h3 N (by omega) hN rfl q))
  refine loopN (L := fun k i M' => wp_X7_days_L44 K (nI N) k i M') N (fun i M' => St (fun b => SD 12 b || b == 1) M M' ∧ M' 1 = M 1 ∧ RG 12 n h (passN (tvN 2 M) (tvN 7 M) true h n i V) M' ∧ M' 12 7 = nI (passN (tvN 2 M) (tvN 7 M) true h n i V 9)) ?_ 0 (Nat.zero_le _) ⟨St.rf, rfl, hS.1, hS.2.1⟩
  intro i M' k hi hs ih
  obtain ⟨hs, hm1, hr, h7⟩ := hs
  show wp_X7_days_l44 K (nI N) (wp_X7_days_L44 K (nI N) k) (nI i) M'
  unfold wp_X7_days_l44
  have hv := (rv_pass (lg := tvN 2 M) (lh := tvN 7 M) (wh := true) (h := h) hS.rv i (by omega)).1
  refine ⟨fun g => ?_, fun g => ?_⟩
  · have : i = N := by have := le_of_nI g (by omega) (by omega); omega
    subst this
    exact k_endedMany GF12 hr hv (hg i (by omega) hN rfl q M' hs hm1 hr h7)
  · rw [nI_1]
    exact hS.day hs hr h7 hv (fun M2 s2 f1 r2 f7 => ih _ (lt_of_nI g (by omega) (by omega)) ⟨s2, f1.trans hm1, r2, f7⟩)
theorem y_days {n : Nat} {V : Nat → Nat} {h : Nat → Int32} {M X : Mem} {K : Int32 → Mem → Prop} {a : Int32} (hR : RR n h V (M 80)) (hV : RV n V) (hH : HH n h) (hT2 : TQ 2 0 (M 80) X) (hT7 : TQ 7 1 (M 80) X) (h9 : V 0 ≤ 9999) (hg : ∀ N : Nat, 1 ≤ N → N ≤ 60 → a = nI N → V 0 + N ≤ 9999 → ∀ M1, SMV M M1 → RR n h (passN (tvN 2 X) (tvN 7 X) true h n N V) (M1 80) → K (nI (pcN (endM (passN (tvN 2 X) (tvN 7 X) true h n N V) n))) M1)
    (h1 : ¬ (1 ≤ a.toInt ∧ a.toInt ≤ 60) → ∀ M1, PM 1 M M1 → K (erA 1).1 M1) (h3 : ∀ N : Nat, 1 ≤ N → N ≤ 60 → a = nI N → 9999 < V 0 + N → ∀ M1, PM 3 M M1 → K (erA 3).1 M1) : wp_X8_days a M K := by
  unfold wp_X8_days
  refine w8n 1 60 (by decide) (by decide) (fun g1 g2 => ?_) (fun g => e8A (i := 1) (by omega) (by omega) (by decide) St.rf (h1 g))
  obtain ⟨N, hN, rfl⟩ := nat_of (x := a) 60 (by omega) g2 (by decide)
  rw [nI_toInt (by omega)] at g1
  have e6 : M 80 0 = nI (V 0) := hR.2.2 0 (Or.inl rfl)
  rw [e6, nI_add]
  refine pk_le (V 0 + N) 9999 (fun q => ?_) (fun q => e8A (i := 3) (by omega) (by omega) (by decide) St.rf (h3 N (by omega) hN rfl q))
  refine g_passes (by omega) hR hV (by omega) hH hT2 hT7 (fun M1 s1 r1 => ?_)
  have hv := (rv_pass (lg := tvN 2 X) (lh := tvN 7 X) (wh := true) (h := h) hV N (by omega)).1
  have hl := endM_lt (V := passN (tvN 2 X) (tvN 7 X) true h n N V) n
  have hp := pow_9 hV.1
  exact g_overSet r1 hv (g_bits (by omega) (hg N (by omega) hN rfl q M1 s1 r1))
theorem SMV.o {M M1 : Mem} (h : SMV M M1) : (∀ c, c ≠ 80 → c ≠ 85 → c ≠ 86 → M1 c = M c) ∧ ∀ k, (k = 1 ∨ k = 3 ∨ k = 4 ∨ k = 5 ∨ k = 6 ∨ 74 ≤ k) → M1 80 k = M 80 k := by
  refine ⟨fun c c1 c2 c3 => h.1 c (by simp [c1, c2, c3]), fun k hk => h.2 k ?_⟩
  simp [VOL]; omega
section ZI
variable {i : Nat} {M : Mem}
theorem z2_days {a : Int32} (hI : Inv2 i M) : wp_X7_days a M (fun r1 M1 => wp_X8_days a M1 (fun r2 M2 => r1 = r2 ∧ Inv2 (i + 1) M2)) := by
  obtain ⟨n, b, t, V, h, hS⟩ := hI.2.1
  have hn := hS.rv.1
  have inj : ∀ {N N' : Nat}, N ≤ 60 → N' ≤ 60 → a = nI N → a = nI N' → N' = N := fun h1 h2 e1 e2 => (nI_eq (by omega) (by omega)).mp (e2.symm.trans e1)
  have no : ∀ {N : Nat}, 1 ≤ N → N ≤ 60 → a = nI N → ¬ ¬ (1 ≤ a.toInt ∧ a.toInt ≤ 60) := fun h1 h2 e g => g (by rw [e, nI_toInt (by omega)]; omega)
  refine x_days hS.sc hS.v0 (fun N n1 n60 eN hle M1 s1 f1 r1 g7 => ?_) (fun g M1 p1 => ?_) (fun N n1 n60 eN hlt M1 p1 => ?_)
  · have em : ∀ c, c ≠ 6 → c ≠ 11 → (c < 12 ∨ 22 < c) → M1 c = M c := fun c c1 c2 c3 => by
      by_cases e : c = 1
      · rw [e]; exact f1
      · exact s1 c (by simp; omega)
    have e80 : M1 80 = M 80 := em 80 (by omega) (by omega) (by omega)
    refine y_days (n := n) (h := h) (V := V) (X := M) (by rw [e80]; exact hS.2.2.1) hS.rv hS.hh (by rw [e80]; exact hS.t0) (by rw [e80]; exact hS.t1) hS.v0 (fun N' n1' n60' eN' _ M2 s2 r2 => ?_) (fun g => absurd g (no n1 n60 eN)) (fun N' n1' n60' eN' hlt' => ?_)
    · have := inj n60 n60' eN eN'; subst this
      obtain ⟨o1, o2⟩ := s2.o
      have es : ∀ c, c ≠ 6 → c ≠ 11 → (c < 12 ∨ 22 < c) → c ≠ 80 → c ≠ 85 → c ≠ 86 → M2 c = M c := fun c c1 c2 c3 c4 c5 c6 => by rw [o1 c c4 c5 c6, em c c1 c2 c3]
      obtain ⟨hv, hv0⟩ := rv_pass (lg := tvN 2 M) (lh := tvN 7 M) (wh := true) (h := h) hS.rv N' (by have := hS.v0; omega)
      refine ⟨rfl, hI.rest (fun c hc => es c (by simp at hc; omega) (by simp at hc; omega) (by simp at hc; omega) (by simp at hc; omega) (by simp at hc; omega) (by simp at hc; omega)) (by rw [es 79 (by omega) (by omega) (by omega) (by omega) (by omega) (by omega)]) (by rw [es 79 (by omega) (by omega) (by omega) (by omega) (by omega) (by omega)]) (by rw [es 79 (by omega) (by omega) (by omega) (by omega) (by omega) (by omega)]) (hS.num (fun c c1 c2 c3 c4 c5 => es c c4 c5 c3 (by omega) (by omega) (by omega)) (fun k hk => by rw [o1 1 (by omega) (by omega) (by omega), f1]) (fun k hk => by rw [o2 k (by omega), e80]) (by rw [o1 1 (by omega) (by omega) (by omega), f1, o2 1 (by omega), e80]; exact hS.bt.2.2.1) (r1.same hn (fun c c1 c2 => o1 c (by omega) (by omega) (by omega))) (by rw [o1 12 (by omega) (by omega) (by omega)]; exact g7) r2 hv (by rw [hv0]; exact hle) hS.hh)⟩
    · have := inj n60 n60' eN eN'; omega
  · have e80 : M1 80 = M 80 := p1.1 80 rfl
    exact y_days (n := n) (h := h) (V := V) (X := M) (by rw [e80]; exact hS.2.2.1) hS.rv hS.hh (by rw [e80]; exact hS.t0) (by rw [e80]; exact hS.t1) hS.v0 (fun N' n1' n60' eN' => absurd g (no n1' n60' eN')) (fun _ M2 p2 => ⟨rfl, hI.th p1.1 p2.1⟩) (fun N' n1' n60' eN' => absurd g (no n1' n60' eN'))
  · have e80 : M1 80 = M 80 := p1.1 80 rfl
    exact y_days (n := n) (h := h) (V := V) (X := M) (by rw [e80]; exact hS.2.2.1) hS.rv hS.hh (by rw [e80]; exact hS.t0) (by rw [e80]; exact hS.t1) hS.v0 (fun N' n1' n60' eN' hle => by have := inj n60 n60' eN eN'; omega) (fun g => absurd g (no n1 n60 eN)) (fun N' n1' n60' eN' _ M2 p2 => ⟨rfl, hI.th p1.1 p2.1⟩)
end ZI
