/-- what check answers: the first that is otherwise -/
def chkF (P : Nat → Bool) : Nat → Nat → Nat
  | _, 0 => 0
  | i, r + 1 => if P i = true then chkF P (i + 1) r else 1 + i
theorem chkF_le {P : Nat → Bool} : ∀ r i, chkF P i r ≤ i + r := by
  intro r
  induction r with
  | zero => intro i; exact Nat.zero_le _
  | succ r ih =>
    intro i
    show (if P i = true then chkF P (i + 1) r else 1 + i) ≤ _
    split
    · have := ih (i + 1); omega
    · omega
section ZK
variable {i : Nat} {M : Mem}
theorem x_check {n t : Nat} {V : Nat → Nat} {h : Nat → Int32} {M : Mem} {K : Int32 → Mem → Prop} (hS : SC n V h M) (h9 : V 0 ≤ 9999) (ht : t ≤ 20) (hw : M 1 6 = nI t) (hk : ∀ M1, St SY (up M 1 6 0) M1 → K (nI (chkF (fun j => decide (M 24 j = nI (pcN (endM (passN (tvN 2 M) (tvN 7 M) false h n (j + 1) V) n)))) 0 t)) M1) : wp_X7_check M K := by
  have hn := hS.rv.1
  have hS0 : SC n V h (up M 1 6 0) := hS.keep (fun c c1 c2 _ _ => up_o _ (by omega))
  have x2 : tvN 2 (up M 1 6 0) = tvN 2 M := tvN_keep (up_o _ (by omega)) (up_o _ (by omega)) (up_o _ (by omega)) (up_o _ (by omega))
  have x7 : tvN 7 (up M 1 6 0) = tvN 7 M := tvN_keep (up_o _ (by omega)) (up_o _ (by omega)) (up_o _ (by omega)) (up_o _ (by omega))
  unfold wp_X7_check
  rw [hw]
  refine k_think hS0 St.rf (fun M1 h1 => ?_)
  rw [← x2, ← x7] at hk
  generalize hP : (fun j => decide (M 24 j = nI (pcN (endM (passN (tvN 2 (up M 1 6 0)) (tvN 7 (up M 1 6 0)) false h n (j + 1) V) n)))) = P at hk
  refine loopN (L := fun k i M' => wp_X7_check_L22 K (nI t) k i M') t (fun i M' => TH n h (passN (tvN 2 (up M 1 6 0)) (tvN 7 (up M 1 6 0)) false h n i V) (up M 1 6 0) M' ∧ chkF P 0 t = chkF P i (t - i)) ?_ 0 (Nat.zero_le _) ⟨h1, rfl⟩
  intro i M' k hi hs ih
  obtain ⟨hs, he⟩ := hs
  show wp_X7_check_l22 K (nI t) (wp_X7_check_L22 K (nI t) k) (nI i) M'
  unfold wp_X7_check_l22
  have hv := (rv_pass (lg := tvN 2 (up M 1 6 0)) (lh := tvN 7 (up M 1 6 0)) (wh := false) (h := h) hS.rv i (by omega))
  refine ⟨fun q => ?_, fun q => ?_⟩
  · have : i = t := by have := le_of_nI q (by omega) (by omega); omega
    subst this
    have := hk M' hs.1
    rw [he, Nat.sub_self] at this
    exact this
  · have hit : i < t := lt_of_nI q (by omega) (by omega)
    rw [nI_1]
    have hsub : t - i = (t - (i + 1)) + 1 := by omega
    rw [hsub] at he
    refine k_pass (wh := false) rfl hS0 hv.1 hs (fun M2 h2 => ⟨vp_in_nI (by omega) (by decide), ?_⟩)
    have hv2 := (rv_day (lg := tvN 2 (up M 1 6 0)) (lh := tvN 7 (up M 1 6 0)) (wh := false) (h := h) hv.1 (by rw [hv.2]; omega))
    refine k_endedMany GF49 h2.2.1 hv2 ?_
    have e24 : M2 24 = M 24 := by rw [h2.1 24 rfl, up_o _ (by omega)]
    rw [e24, nI_clamp (by omega)]
    refine ⟨fun g => ih _ hit ⟨h2, he.trans ?_⟩, fun g => ?_⟩
    · show (if P i = true then chkF P (i + 1) (t - (i + 1)) else 1 + i) = _
      rw [if_pos (by rw [← hP]; exact decide_eq_true g)]
    · have := hk M2 h2.1
      rw [he] at this
      have e : chkF P i ((t - (i + 1)) + 1) = 1 + i := by
        show (if P i = true then chkF P (i + 1) (t - (i + 1)) else 1 + i) = _
        rw [if_neg (by rw [← hP]; intro c; exact g (of_decide_eq_true c))]
      rw [e] at this
      rw [show (1 : Int32) = nI 1 from rfl, nI_add]; exact this
theorem y_check {n t : Nat} {V : Nat → Nat} {h : Nat → Int32} {M X : Mem} {K : Int32 → Mem → Prop} (hR : RR n h V (M 80)) (hV : RV n V) (hH : HH n h) (hT2 : TQ 2 0 (M 80) X) (hT7 : TQ 7 1 (M 80) X) (h9 : V 0 ≤ 9999) (ht : t ≤ 20) (hw : M 80 4 = nI t) (hk : ∀ M1, St SMz (up M 80 4 0) M1 → K (nI (chkF (fun j => decide (M 80 (124 + j) = nI (pcN (endM (passN (tvN 2 X) (tvN 7 X) true h n (j + 1) V) n)))) 0 t)) M1) : wp_X8_check M K := by
  have hn := hV.1
  unfold wp_X8_check
  rw [hw]
  have z8 : ∀ k, k ≠ 4 → (up M 80 4 0) 80 k = M 80 k := fun k hk => up_slot _ hk
  have hR0 : RR n h V ((up M 80 4 0) 80) := hR.same hn (fun k k0 k1 k2 k3 k4 k5 => z8 k k3)
  have hT20 : TQ 2 0 ((up M 80 4 0) 80) X := hT2.keep rfl rfl rfl rfl (z8 _ (by omega)) (fun j _ => z8 _ (by omega))
  have hT70 : TQ 7 1 ((up M 80 4 0) 80) X := hT7.keep rfl rfl rfl rfl (z8 _ (by omega)) (fun j _ => z8 _ (by omega))
  have zw : ∀ j, (up M 80 4 0) 80 (124 + j) = M 80 (124 + j) := fun j => z8 _ (by omega)
  generalize hP : (fun j => decide (M 80 (124 + j) = nI (pcN (endM (passN (tvN 2 X) (tvN 7 X) true h n (j + 1) V) n)))) = P at hk
  generalize (up M 80 4 0) = M0 at hR0 hT20 hT70 hk zw
  refine u_go St.rf hR0 (fun M1 h1 => ?_)
  have fin : ∀ (a : Nat) (y : Int32) (i : Nat) (M' : Mem), i ≤ t → GT n h (passN (tvN 2 X) (tvN 7 X) true h n a V) M0 M' → (y = 0 → chkF P 0 t = 1 + i) → (¬ y = 0 → chkF P 0 t = 0) → wp_X8_moveAll 82 80 M' (fun M2 => (y = 0 → K (1 + nI i) M2) ∧ (¬ y = 0 → K 0 M2)) := fun a y i M' hi hs g0 g1 => u_back hs (fun M3 h3 => by
    have := hk M3 h3
    refine ⟨fun e => ?_, fun e => ?_⟩
    · rw [g0 e] at this
      rw [show (1 : Int32) = nI 1 from rfl, nI_add]; exact this
    · rw [g1 e] at this; exact this)
  refine loopW (σ := Nat × Int32 × Mem) (L := fun k s => wp_X8_check_L30 K (nI t) k (nI s.1) s.2.1 s.2.2) (I := fun k s => s.1 ≤ t ∧ k = 2 * (t - s.1) + (if s.2.1 = 0 then 0 else 1) ∧ (∃ a, a ≤ t ∧ (¬ s.2.1 = 0 → a = s.1) ∧ GT n h (passN (tvN 2 X) (tvN 7 X) true h n a V) M0 s.2.2) ∧ (s.2.1 = 0 → s.1 < t ∧ chkF P 0 t = 1 + s.1) ∧ (¬ s.2.1 = 0 → chkF P 0 t = chkF P s.1 (t - s.1))) ?_ (k := 2 * t + 1) (s := (0, 1, M1)) ⟨by show 0 ≤ t; omega, by simp, ⟨0, by omega, fun _ => rfl, h1⟩, fun e => absurd (show (1 : Int32) = 0 from e) (by decide), fun _ => rfl⟩
  intro k s m hI ih
  obtain ⟨g1, g2, ⟨a, ga, gb, g3⟩, g4, g5⟩ := hI
  show wp_X8_check_l30 K (nI t) (wp_X8_check_L30 K (nI t) m) (nI s.1) s.2.1 s.2.2
  unfold wp_X8_check_l30
  refine ⟨fun q => fin a s.2.1 s.1 _ g1 g3 (fun e => (g4 e).2) (fun e => ?_), fun q => ⟨fun e => fin a s.2.1 s.1 _ g1 g3 (fun e => (g4 e).2) (fun e2 => absurd e e2), fun q2 => ?_⟩⟩
  · have : s.1 = t := by have := le_of_nI q (by omega) (by omega); omega
    rw [g5 e, this, Nat.sub_self]; rfl
  have hlt : s.1 < t := lt_of_nI q (by omega) (by omega)
  rw [if_neg q2] at g2
  have ea := gb q2
  subst ea
  obtain ⟨hv, hv0⟩ := rv_pass (lg := tvN 2 X) (lh := tvN 7 X) (wh := true) (h := h) hV s.1 (by omega)
  refine u_day (by decide) g3 hv hH hT20 hT70 (fun M2 h2 => ?_)
  have hv2 := rv_day (lg := tvN 2 X) (lh := tvN 7 X) (wh := true) (h := h) hv (by omega)
  have hl := endM_lt (V := dayN (tvN 2 X) (tvN 7 X) true h n (passN (tvN 2 X) (tvN 7 X) true h n s.1 V)) n
  have hp := pow_9 hn
  refine g_overSet h2.2.2.2 hv2 (g_bits (by omega) ?_)
  rw [show (124 : Int32) = nI 124 from rfl, nI_add, nI_clamp (by omega), h2.2.2.1 (124 + s.1) (by simp [VOL]; omega), zw]
  have g6 := g5 q2
  rw [show t - s.1 = (t - (s.1 + 1)) + 1 by omega] at g6
  refine ⟨vp_in_nI (by omega) (by decide), fun e => ?_, fun e => ?_⟩
  · rw [Int32.add_zero]
    refine ih (2 * (t - s.1)) (s.1, 0, M2) (by omega) ⟨g1, by simp, ⟨s.1 + 1, by omega, fun c => absurd rfl c, h2⟩, fun _ => ⟨hlt, g6.trans ?_⟩, fun c => absurd rfl c⟩
    show (if P s.1 = true then chkF P (s.1 + 1) (t - (s.1 + 1)) else 1 + s.1) = _
    rw [if_neg (by rw [← hP]; intro c; exact e (of_decide_eq_true c).symm)]
  · rw [nI_1]
    refine ih (2 * (t - (s.1 + 1)) + 1) (s.1 + 1, 1, M2) (by omega) ⟨by show s.1 + 1 ≤ t; omega, by simp, ⟨s.1 + 1, by omega, fun _ => rfl, h2⟩, fun c => absurd (show (1 : Int32) = 0 from c) (by decide), fun _ => g6.trans ?_⟩
    show (if P s.1 = true then chkF P (s.1 + 1) (t - (s.1 + 1)) else 1 + s.1) = _
    rw [if_pos (by rw [← hP]; exact decide_eq_true e.symm)]
theorem chkF_congr {P Q : Nat → Bool} : ∀ r i, (∀ j, i ≤ j → j < i + r → P j = Q j) → chkF P i r = chkF Q i r := by
  intro r
  induction r with
  | zero => intro i _; rfl
  | succ r ih =>
    intro i hpq
    show (if P i = true then chkF P (i + 1) r else 1 + i) = (if Q i = true then chkF Q (i + 1) r else 1 + i)
    rw [hpq i (by omega) (by omega), ih (i + 1) (fun j h1 h2 => hpq j (by omega) (by omega))]
theorem z2_check (hI : Inv2 i M) : wp_X7_check M (fun r1 M1 => wp_X8_check M1 (fun r2 M2 => r1 = r2 ∧ Inv2 (i + 1) M2)) := by
  obtain ⟨n, b, t, V, h, hS⟩ := hI.2.1
  obtain ⟨⟨b1, b2, b3⟩, ⟨t1, t2, t3⟩, hz, hT, hW⟩ := hS.bt
  refine x_check hS.sc hS.v0 t1 t2 (fun M1 s1 => ?_)
  have em : ∀ c, c ≠ 1 → c ≠ 6 → c ≠ 11 → (c < 49 ∨ 59 < c) → M1 c = M c := fun c c1 c2 c3 c4 => by rw [s1 c (by simp; omega), up_o _ c1]
  have e80 : M1 80 = M 80 := em 80 (by omega) (by omega) (by omega) (by omega)
  refine y_check (n := n) (h := h) (V := V) (X := M) (t := t) (by rw [e80]; exact hS.2.2.1) hS.rv hS.hh (by rw [e80]; exact hS.t0) (by rw [e80]; exact hS.t1) hS.v0 t1 (by rw [e80]; exact t3) (fun M2 s2 => ⟨?_, ?_⟩)
  · rw [e80]
    congr 1
    refine chkF_congr t 0 (fun j _ hj => ?_)
    have e := endM_congr (V := passN (tvN 2 M) (tvN 7 M) false h n (j + 1) V) (W := passN (tvN 2 M) (tvN 7 M) true h n (j + 1) V) n (fun q _ => E9.pass E9.rf (j + 1) _ (by omega))
    rw [e, hW j (by omega)]
  · have eo : ∀ c, c ≠ 80 → c ≠ 82 → c ≠ 85 → c ≠ 86 → M2 c = M1 c := fun c c1 c2 c3 c4 => by rw [s2 c (by simp [c2, c3, c4]), up_o _ c1]
    have es : ∀ c, c ≠ 1 → c ≠ 6 → c ≠ 11 → (c < 49 ∨ 59 < c) → c ≠ 80 → c ≠ 82 → c ≠ 85 → c ≠ 86 → M2 c = M c := fun c c1 c2 c3 c4 c5 c6 c7 c8 => by rw [eo c c5 c6 c7 c8, em c c1 c2 c3 c4]
    have ec : ∀ c, 2 ≤ c → c ≤ 24 → c ≠ 6 → c ≠ 11 → M2 c = M c := fun c c1 c2 c3 c4 => es c (by omega) c3 c4 (by omega) (by omega) (by omega) (by omega) (by omega)
    have m1 : ∀ k, M2 1 k = (up M 1 6 0) 1 k := fun k => by rw [eo 1 (by omega) (by omega) (by omega) (by omega), s1 1 rfl]
    have m8 : ∀ k, M2 80 k = (up M1 80 4 0) 80 k := fun k => by rw [s2 80 rfl]
    have e1 : ∀ k, k ≠ 6 → M2 1 k = M 1 k := fun k hk => by rw [m1, up_slot _ hk]
    have e8 : ∀ k, k ≠ 4 → M2 80 k = M 80 k := fun k hk => by rw [m8, up_slot _ hk, e80]
    refine hI.rest (fun c hc => es c (by simp at hc; omega) (by simp at hc; omega) (by simp at hc; omega) (by simp at hc; omega) (by simp at hc; omega) (by simp at hc; omega) (by simp at hc; omega) (by simp at hc; omega)) (by rw [es 79 (by omega) (by omega) (by omega) (by omega) (by omega) (by omega) (by omega) (by omega)]) (by rw [es 79 (by omega) (by omega) (by omega) (by omega) (by omega) (by omega) (by omega) (by omega)]) (by rw [es 79 (by omega) (by omega) (by omega) (by omega) (by omega) (by omega) (by omega) (by omega)]) (hS.re (b' := b) (t' := 0) (fun c c1 c2 => ec c (by omega) (by omega) (by omega) (by omega)) (fun k k0 k1 k2 k3 k4 k5 => e8 k k3) (hS.t0.keep (ec _ (by omega) (by omega) (by omega) (by omega)) (ec _ (by omega) (by omega) (by omega) (by omega)) (ec _ (by omega) (by omega) (by omega) (by omega)) (ec _ (by omega) (by omega) (by omega) (by omega)) (e8 _ (by omega)) (fun j _ => e8 _ (by omega))) (hS.t1.keep (ec _ (by omega) (by omega) (by omega) (by omega)) (ec _ (by omega) (by omega) (by omega) (by omega)) (ec _ (by omega) (by omega) (by omega) (by omega)) (ec _ (by omega) (by omega) (by omega) (by omega)) (e8 _ (by omega)) (fun j _ => e8 _ (by omega))) ⟨b1, by rw [e1 5 (by omega)]; exact b2, by rw [e8 3 (by omega)]; exact b3⟩ ⟨by omega, by rw [m1, up_same]; rfl, by rw [m8, up_same]; rfl⟩ (by rw [e1 7 (by omega), e8 1 (by omega)]; exact hz) (fun j hj => by rw [ec 23 (by omega) (by omega) (by omega) (by omega), e8 _ (by omega)]; exact hT j hj) (fun j hj => absurd hj (Nat.not_lt_zero j)))
end ZK
