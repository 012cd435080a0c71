theorem e_end {g n : Nat} {h : Nat → Int32} {V : Nat → Nat} {M : Mem} {K : Mem → Prop} {wh : Bool} {fl : Int32} (hfl : fl = if wh = true then 1 else 0) (hF : GF g) (hR : RG g n h V M) (h7 : M g 7 = nI (V 9)) (hV : RV n V) (hH : HH n h) (hT : M 7 5 = 0 ∨ ∃ z, TC 7 z M) (hk : ∀ M1, St (SER g) M M1 → M1 g 7 = nI (endN (tvN 7 M) wh h n V 9) → RG g n h (endN (tvN 7 M) wh h n V) M1 → K M1) : wp_X0_endOrDull g fl M K := by
  have hn9 := hV.1
  have hg : g = 12 ∨ g = 49 := hF.2.2.2.2.2
  unfold wp_X0_endOrDull
  refine loopN (L := fun k i M' => wp_X0_endOrDull_L2 K g fl k i M') n (fun i M' => St (SER g) M M' ∧ M' g 7 = nI (endN (tvN 7 M) wh h i V 9) ∧ RG g n h (endN (tvN 7 M) wh h i V) M') ?_ 0 (Nat.zero_le _) ⟨St.rf, h7, hR⟩
  intro i M' k hi hs ih
  obtain ⟨hs, hm, hr⟩ := hs
  show wp_X0_endOrDull_l2 K g fl (wp_X0_endOrDull_L2 K g fl k) (nI i) M'
  unfold wp_X0_endOrDull_l2
  have hv := rv_endN (lh := tvN 7 M) (wh := wh) (h := h) hV i hi
  have ih' : ∀ M1, i < n → St (SER g) M M1 ∧ M1 g 7 = nI (end1 (tvN 7 M) wh h i (endN (tvN 7 M) wh h i V) 9) ∧ RG g n h (end1 (tvN 7 M) wh h i (endN (tvN 7 M) wh h i V)) M1 → wp_X0_endOrDull_L2 K g fl k (nI (i + 1)) M1 := fun M1 a b => ih M1 a b
  generalize hW : endN (tvN 7 M) wh h i V = W at hr hm hv ih'
  have hr0 := hr
  obtain ⟨r1, r2, r3, r4, r5, r6⟩ := hr
  rw [r1]
  refine ⟨fun q => ?_, fun q => ?_⟩
  · have : i = n := by have := le_of_nI q (by omega) (by omega); omega
    subst this
    exact hk _ hs (by rw [hW]; exact hm) (by rw [hW]; exact hr0)
  · have hin : i < n := lt_of_nI q (by omega) (by omega)
    have hv0 := hv
    obtain ⟨v1, v2, v3, v4, v5, v6, v7⟩ := hv
    obtain ⟨w1, w2, w3, w4, w5, w6⟩ := v7 i hin
    obtain ⟨o1, o2, o3, o4, o5, o6, o7⟩ := r6 i hin
    rw [hF.one (by omega), nI_1, o6]
    unfold end1 at ih'
    refine ⟨hF.vp (by omega), fun q2 => ?_, fun q2 => ?_⟩
    · have c : W (16 + 7 * i) = 0 := (nI_eq (a := W (16 + 7 * i)) (b := 0) (by omega) (by omega)).mp q2
      rw [if_pos c] at ih'
      have hdl := dullN_le (kd := W (11 + 7 * i))
      have hb : ¬ (needN (W (11 + 7 * i)) (W (12 + 7 * i)) ≤ W (14 + 7 * i) ∧ freeN h i W = true) → wp_X0_endOrDull_b54 K (wp_X0_endOrDull_L2 K g fl k) g fl (nI i) (g + 2 + i) M' := by
        intro c2
        rw [if_neg c2] at ih'
        unfold wp_X0_endOrDull_b54
        rw [nI_1, o4, o7]
        have m5 : ∀ (N : Mem) (x : Int32), up N (g + 2 + i) 3 x (g + 2 + i) 5 = N (g + 2 + i) 5 := fun N x => up_slot _ (by decide)
        refine ⟨fun f0 => ?_, fun f0 => ?_⟩
        · have hw : ¬ wh = true := fun e => by rw [hfl, if_pos e] at f0; exact absurd f0 (by decide)
          rw [if_neg hw] at ih'
          refine x_dulls o1 w1 ?_
          rintro _ rfl
          rw [m5, o7, nI_1, max0 (by omega) (by omega), show (999 : Int32) = nI 999 from rfl, minN (by omega) (by omega)]
          exact ih' _ hin ⟨(hs.up (by simp; omega)).up (by simp; omega), by rw [up_cell (by omega), up_cell (by omega), adf_o (by omega), adf_o (by omega)]; exact hm, (hr0.put hin hn9 (Or.inl ⟨rfl, rfl⟩)).put hin hn9 (Or.inr (Or.inr ⟨rfl, rfl⟩))⟩
        · have hw : wh = true := by
            cases wh
            · exact absurd hfl f0
            · rfl
          rw [if_pos hw] at ih'
          have k7 : M' 7 = M 7 := hs 7 (by rcases hg with rfl | rfl <;> rfl)
          have k8 : M' 8 = M 8 := hs 8 (by rcases hg with rfl | rfl <;> rfl)
          have k9 : M' 9 = M 9 := hs 9 (by rcases hg with rfl | rfl <;> rfl)
          have k10 : M' 10 = M 10 := hs 10 (by rcases hg with rfl | rfl <;> rfl)
          have hT' : M' 7 5 = 0 ∨ ∃ z, TC 7 z M' := by
            unfold TC
            rw [k7, show M' (7 + 1) = M (7 + 1) from k8, show M' (7 + 2) = M (7 + 2) from k9, show M' (7 + 3) = M (7 + 3) from k10]
            exact hT
          rw [hF.2.1, o2, hm]
          refine e_gives TF7 hT' (fun M2 hs2 => ?_)
          rw [tv_keep k7 k8 k9 k10, tvN_eq.1]
          have hv99 := (tvN_eq (t := 7) (M := M) (a := W (14 + 7 * i)) (b := W (17 + 7 * i)) (c := W (12 + 7 * i))).2
          have s2 : ∀ c, g ≤ c → c ≤ g + 10 → M2 c = M' c := fun c hc hc2 => hs2 c (by simp; omega)
          have hR2 := hr0.same hn9 s2
          rw [nI_add, show (99999 : Int32) = nI 99999 from rfl, minN (by omega) (by omega)]
          have hR3 := hR2.harm (x := min 99999 (W 9 + tvN 7 M (W (14 + 7 * i)) (W (17 + 7 * i)) (W (12 + 7 * i)))) (y := nI (min 99999 (W 9 + tvN 7 M (W (14 + 7 * i)) (W (17 + 7 * i)) (W (12 + 7 * i))))) hn9
          have hS3 : St (SER g) M (up M2 g 7 (nI (min 99999 (W 9 + tvN 7 M (W (14 + 7 * i)) (W (17 + 7 * i)) (W (12 + 7 * i)))))) := (hs.tr (hs2.w (by intro c hc; simp at hc ⊢; omega))).up (by simp)
          have h73 : (up M2 g 7 (nI (min 99999 (W 9 + tvN 7 M (W (14 + 7 * i)) (W (17 + 7 * i)) (W (12 + 7 * i)))))) g 7 = nI (min 99999 (W 9 + tvN 7 M (W (14 + 7 * i)) (W (17 + 7 * i)) (W (12 + 7 * i)))) := up_same
          generalize up M2 g 7 (nI (min 99999 (W 9 + tvN 7 M (W (14 + 7 * i)) (W (17 + 7 * i)) (W (12 + 7 * i))))) = M3 at hR3 hS3 h73 ⊢
          obtain ⟨p1, p2, p3, p4, p5, p6, p7⟩ := hR3.2.2.2.2.2 i hin
          have a : ∀ j, j ≠ 9 → adf W 9 (min 99999 (W 9 + tvN 7 M (W (14 + 7 * i)) (W (17 + 7 * i)) (W (12 + 7 * i)))) j = W j := fun j hj => adf_o hj
          rw [a _ (by omega)] at p1 p4 p7
          rw [p4]
          refine x_dulls p1 w1 ?_
          rintro _ rfl
          rw [m5, p7, nI_1, max0 (by omega) (by omega), show (999 : Int32) = nI 999 from rfl, minN (by omega) (by omega)]
          exact ih' _ hin ⟨(hS3.up (by simp; omega)).up (by simp; omega), by rw [up_cell (by omega), up_cell (by omega), adf_o (by omega), adf_o (by omega), adf_s]; exact h73, (hR3.put hin hn9 (Or.inl ⟨rfl, rfl⟩)).put hin hn9 (Or.inr (Or.inr ⟨rfl, rfl⟩))⟩
      refine x_needs o1 w1 o2 w2 ?_
      have hnl := needN_le (kd := W (11 + 7 * i)) (m := W (12 + 7 * i)) w2
      rw [o4]
      refine pk_lt (W (14 + 7 * i)) (needN (W (11 + 7 * i)) (W (12 + 7 * i))) (fun hlt => hb (fun c2 => by omega)) (fun hge => ?_)
      refine e_free hF hr0 hv0 hH hin (fun hf => ⟨fun q3 => absurd q3 (by decide), fun _ => ?_⟩) (fun hf => ⟨fun _ => hb (fun c2 => hf c2.2), fun q3 => absurd rfl q3⟩)
      rw [if_pos ⟨hge, hf⟩] at ih'
      exact ih' _ hin ⟨hs.up (by simp; omega), by rw [up_cell (by omega), adf_o (by omega)]; exact hm, hr0.put (x := 1) hin hn9 (Or.inr (Or.inl ⟨rfl, rfl⟩))⟩
    · rw [if_neg (fun c => q2 (by rw [c]; rfl))] at ih'
      exact ih' M' hin ⟨hs, hm, hr0⟩
