section AP
variable {n b t i : Nat} {h : Nat → Int32} {V : Nat → Nat} {M X : Mem} {K : Int32 → Mem → Prop}
/-- who has ended behind d days -/
def EsD (lg lh : Nat → Nat → Nat → Nat) (h : Nat → Int32) (n : Nat) (V : Nat → Nat) (d q : Nat) : Bool := decide (passN lg lh true h n d V (16 + 7 * q) ≠ 0)
theorem es_c {lg lh : Nat → Nat → Nat → Nat} {d : Nat} : endM (passN lg lh false h n d V) n = setM (EsD lg lh h n V d) n := by rw [ends_9, endM_set]; rfl
theorem es_m {lg lh : Nat → Nat → Nat → Nat} {d : Nat} : endM (passN lg lh true h n d V) n = setM (EsD lg lh h n V d) n := by rw [endM_set]; rfl
theorem es_up {lg lh : Nat → Nat → Nat → Nat} {d q : Nat} (hq : EsD lg lh h n V d q = true) : EsD lg lh h n V (d + 1) q = true := by
  have c : passN lg lh true h n d V (16 + 7 * q) ≠ 0 := of_decide_eq_true hq
  have e : passN lg lh true h n (d + 1) V (16 + 7 * q) = passN lg lh true h n d V (16 + 7 * q) := day_stay c
  exact decide_eq_true (by rw [e]; exact c)
def frD (lg lh : Nat → Nat → Nat → Nat) (h : Nat → Int32) (n : Nat) (V : Nat → Nat) (d q : Nat) : Bool := EsD lg lh h n V (d + 1) q && !EsD lg lh h n V d q
def lstF (lg lh : Nat → Nat → Nat → Nat) (h : Nat → Int32) (n : Nat) (V : Nat → Nat) : Nat → Int32 × Int32
  | 0 => (-1, 0)
  | d + 1 => if setM (frD lg lh h n V d) n = 0 then lstF lg lh h n V d else (topF (frD lg lh h n V d) (-1) n, nI (d + 1))
def lstA (lg lh : Nat → Nat → Nat → Nat) (h : Nat → Int32) (n : Nat) (V : Nat → Nat) (c : Int32) : Ans := if 0 ≤ c.toInt ∧ c.toInt ≤ 1 then (if 0 ≤ (lstF lg lh h n V 60).1 then (if c = 0 then (lstF lg lh h n V 60).1 else (lstF lg lh h n V 60).2, 0) else erA 2) else erA 1
theorem k_top {P : Nat → Bool} {m : Nat} (hm : m ≤ 9) (hk : K (topF P (-1) m) M) : wp_X7_greatestOf (nI (setM P m)) M K := by
  unfold wp_X7_greatestOf
  refine loopNA (L := fun k a i M' => wp_X7_greatestOf_L4 K (nI (setM P m)) k a i M') 9 (fun i a M' => M' = M ∧ a = topF (fun q => decide (q < m) && P q) (-1) i) ?_ 0 (Nat.zero_le _) ⟨rfl, rfl⟩
  intro i a M' k hi e ih
  obtain ⟨rfl, rfl⟩ := e
  show wp_X7_greatestOf_l4 K (nI (setM P m)) (wp_X7_greatestOf_L4 K (nI (setM P m)) k) (topF (fun q => decide (q < m) && P q) (-1) i) (nI i) M'
  unfold wp_X7_greatestOf_l4
  rw [set_at (by omega) (by omega)]
  have es : topF (fun q => decide (q < m) && P q) (-1) (i + 1) = (if (decide (i < m) && P i) = true then nI i else topF (fun q => decide (q < m) && P q) (-1) i) := rfl
  refine ⟨fun q => ?_, fun q => ?_⟩
  · have : i = 9 := by have := le_of_nI (a := 9) q (by omega) (by omega); omega
    subst this
    rw [topF_ext (P := fun q => decide (q < m) && P q) (Q := P) m 9 hm (fun q hq => by show (decide (q < m) && P q) = P q; rw [decide_eq_true hq, Bool.true_and]) (fun q q1 _ => by show (decide (q < m) && P q) = false; rw [decide_eq_false (by omega), Bool.false_and])]
    exact hk
  · have hi2 : i < 9 := lt_of_nI (a := 9) q (by omega) (by omega)
    rw [nI_1]
    by_cases c : i < m ∧ P i = true
    · rw [if_pos c]
      refine ⟨fun e => absurd e (by decide), fun _ => ih _ _ hi2 ⟨rfl, ?_⟩⟩
      rw [es, decide_eq_true c.1, c.2, if_pos (by decide)]
    · rw [if_neg c]
      refine ⟨fun _ => ih _ _ hi2 ⟨rfl, ?_⟩, fun e => absurd rfl e⟩
      rw [es, if_neg (by intro e; rw [Bool.and_eq_true] at e; exact c ⟨of_decide_eq_true e.1, e.2⟩)]
theorem C_last {c : Int32} (hS : SA 1 80 n b t V h M) (hk : ∀ M1, PC (lstA (tvN 2 M) (tvN 7 M) h n V c).2 M M1 → K (lstA (tvN 2 M) (tvN 7 M) h n V c).1 M1) : wp_X7_last c M K := by
  have h9 := hS.v0
  have hn := hS.rv.1
  unfold wp_X7_last
  unfold lstA at hk
  refine w7n 0 1 (by decide) (by decide) (fun g1 g2 => ?_) (fun g => ?_)
  · rw [if_pos ⟨g1, g2⟩] at hk
    refine k_think hS.sc St.rf (fun M1 h1 => ?_)
    refine loopNA (α := Int32 × Int32) (L := fun k a i M' => wp_X7_last_L27 K c k a.1 a.2 i M') 61 (fun i a M' => 1 ≤ i ∧ TH n h (passN (tvN 2 M) (tvN 7 M) false h n (i - 1) V) M M' ∧ a = lstF (tvN 2 M) (tvN 7 M) h n V (i - 1)) ?_ 1 (a := (-1, 0)) (by omega) ⟨by omega, h1, rfl⟩
    intro i a M' k hi hs ih
    obtain ⟨hi1, hs, rfl⟩ := hs
    obtain ⟨d, rfl⟩ : ∃ d, i = d + 1 := ⟨i - 1, by omega⟩
    rw [show d + 1 - 1 = d by omega] at hs ⊢
    rw [show d + 1 + 1 - 1 = d + 1 by omega] at ih
    show wp_X7_last_l27 K c (wp_X7_last_L27 K c k) (lstF (tvN 2 M) (tvN 7 M) h n V d).1 (lstF (tvN 2 M) (tvN 7 M) h n V d).2 (nI (d + 1)) M'
    unfold wp_X7_last_l27
    refine pk_lt 60 (d + 1) (fun g => ?_) (fun g => ?_)
    · have : d = 60 := by omega
      subst this
      generalize lstF (tvN 2 M) (tvN 7 M) h n V 60 = Y at hk ⊢
      refine ⟨fun e => ?_, fun e => ?_⟩
      · rw [if_pos e] at hk
        dsimp only at hk
        have hk := hk M' (PC.of hs.1)
        exact ⟨fun e2 => by rw [if_neg e2] at hk; exact hk, fun e2 => by rw [if_pos e2] at hk; exact hk⟩
      · rw [if_neg e] at hk
        exact e7A (i := 2) (by omega) (by omega) (by decide) hs.1 hk
    · have hv := (rv_pass (lg := tvN 2 M) (lh := tvN 7 M) (wh := false) (h := h) hS.rv d (by omega))
      refine k_setEnded GF49 hs.2.1 hv.1 (k_pass (wh := false) rfl hS.sc hv.1 hs (fun M2 h2 => ?_))
      have hv2 := (rv_pass (lg := tvN 2 M) (lh := tvN 7 M) (wh := false) (h := h) hS.rv (d + 1) (by omega)).1
      have h2 : TH n h (passN (tvN 2 M) (tvN 7 M) false h n (d + 1) V) M M2 := h2
      refine k_setEnded GF49 h2.2.1 hv2 ?_
      rw [es_c, es_c, set_and_not (by omega), nI_1]
      have ef : (fun q => EsD (tvN 2 M) (tvN 7 M) h n V (d + 1) q && !EsD (tvN 2 M) (tvN 7 M) h n V d q) = frD (tvN 2 M) (tvN 7 M) h n V d := rfl
      rw [ef]
      have hl := setM_lt (P := frD (tvN 2 M) (tvN 7 M) h n V d) n
      have hp := pow_9 hn
      have es : lstF (tvN 2 M) (tvN 7 M) h n V (d + 1) = (if setM (frD (tvN 2 M) (tvN 7 M) h n V d) n = 0 then lstF (tvN 2 M) (tvN 7 M) h n V d else (topF (frD (tvN 2 M) (tvN 7 M) h n V d) (-1) n, nI (d + 1))) := rfl
      refine ⟨fun e => ih (_, _) _ (by omega) ⟨by omega, h2, ?_⟩, fun e => k_top hn (ih (topF (frD (tvN 2 M) (tvN 7 M) h n V d) (-1) n, nI (d + 1)) _ (by omega) ⟨by omega, h2, ?_⟩)⟩
      · have c0 := (nI_eq (b := 0) (by omega) (by omega)).mp e
        rw [es, if_pos c0]
      · rw [es, if_neg (fun c0 => e (by rw [c0]; rfl))]
  · rw [if_neg g] at hk
    exact e7A (i := 1) (by omega) (by omega) (by decide) St.rf hk
theorem G_last {c : Int32} (hG : GH n h V X M) (hk : ∀ M1, PM (lstA (tvN 2 X) (tvN 7 X) h n V c).2 M M1 → K (lstA (tvN 2 X) (tvN 7 X) h n V c).1 M1) : wp_X8_last c M K := by
  obtain ⟨hR, hV, hH, hT2, hT7, h9⟩ := hG
  have hn := hV.1
  have hp := pow_9 hn
  unfold wp_X8_last
  unfold lstA at hk
  refine w8n 0 1 (by decide) (by decide) (fun g1 g2 => ?_) (fun g => ?_)
  · rw [if_pos ⟨g1, g2⟩] at hk
    refine u_go St.rf hR (fun M1 h1 => g_overSet h1.2.2.2 hV ?_)
    have e0 : endM V n = setM (EsD (tvN 2 X) (tvN 7 X) h n V 0) n := es_m (lg := tvN 2 X) (lh := tvN 7 X) (d := 0)
    rw [e0]
    refine loopNA (α := Int32 × Int32 × Int32) (L := fun k a i M' => wp_X8_last_L41 K c k a.1 a.2.1 a.2.2 i M') 61 (fun i a M' => 1 ≤ i ∧ GT n h (passN (tvN 2 X) (tvN 7 X) true h n (i - 1) V) M M' ∧ a = ((lstF (tvN 2 X) (tvN 7 X) h n V (i - 1)).1, (lstF (tvN 2 X) (tvN 7 X) h n V (i - 1)).2, nI (setM (EsD (tvN 2 X) (tvN 7 X) h n V (i - 1)) n))) ?_ 1 (a := (-1, 0, nI (setM (EsD (tvN 2 X) (tvN 7 X) h n V 0) n))) (by omega) ⟨by omega, h1, rfl⟩
    intro i a M' k hi hs ih
    obtain ⟨hi1, hs, rfl⟩ := hs
    obtain ⟨d, rfl⟩ : ∃ d, i = d + 1 := ⟨i - 1, by omega⟩
    rw [show d + 1 - 1 = d by omega] at hs ⊢
    rw [show d + 1 + 1 - 1 = d + 1 by omega] at ih
    show wp_X8_last_l41 K c (wp_X8_last_L41 K c k) (lstF (tvN 2 X) (tvN 7 X) h n V d).1 (lstF (tvN 2 X) (tvN 7 X) h n V d).2 (nI (setM (EsD (tvN 2 X) (tvN 7 X) h n V d) n)) (nI (d + 1)) M'
    unfold wp_X8_last_l41
    refine pk_lt 60 (d + 1) (fun g => u_back hs (fun M3 h3 => ?_)) (fun g => ?_)
    · have : d = 60 := by omega
      subst this
      generalize lstF (tvN 2 X) (tvN 7 X) h n V 60 = Y at hk ⊢
      refine ⟨fun e => ?_, fun e => ?_⟩
      · rw [if_pos e] at hk
        dsimp only at hk
        have hk := hk M3 (PM.of h3)
        exact ⟨fun e2 => by rw [if_neg e2] at hk; exact hk, fun e2 => by rw [if_pos e2] at hk; exact hk⟩
      · rw [if_neg e] at hk
        exact e8A (i := 2) (by omega) (by omega) (by decide) h3 hk
    · have hv := (rv_pass (lg := tvN 2 X) (lh := tvN 7 X) (wh := true) (h := h) hV d (by omega)).1
      refine u_day (by decide) hs hv hH hT2 hT7 (fun M2 h2 => ?_)
      have h2 : GT n h (passN (tvN 2 X) (tvN 7 X) true h n (d + 1) V) M M2 := h2
      have hv2 := (rv_pass (lg := tvN 2 X) (lh := tvN 7 X) (wh := true) (h := h) hV (d + 1) (by omega)).1
      refine g_overSet h2.2.2.2 hv2 ?_
      rw [es_m, set_and_not (by omega), set_or (by omega)]
      have ef : (fun q => EsD (tvN 2 X) (tvN 7 X) h n V (d + 1) q && !EsD (tvN 2 X) (tvN 7 X) h n V d q) = frD (tvN 2 X) (tvN 7 X) h n V d := rfl
      have eo : setM (fun q => EsD (tvN 2 X) (tvN 7 X) h n V d q || (EsD (tvN 2 X) (tvN 7 X) h n V (d + 1) q && !EsD (tvN 2 X) (tvN 7 X) h n V d q)) n = setM (EsD (tvN 2 X) (tvN 7 X) h n V (d + 1)) n := setM_congr n (fun q _ => by
        show (EsD (tvN 2 X) (tvN 7 X) h n V d q || (EsD (tvN 2 X) (tvN 7 X) h n V (d + 1) q && !EsD (tvN 2 X) (tvN 7 X) h n V d q)) = EsD (tvN 2 X) (tvN 7 X) h n V (d + 1) q
        cases c1 : EsD (tvN 2 X) (tvN 7 X) h n V d q
        · simp
        · rw [es_up c1]; rfl)
      rw [eo, ef]
      generalize hP : frD (tvN 2 X) (tvN 7 X) h n V d = P
      have es : lstF (tvN 2 X) (tvN 7 X) h n V (d + 1) = (if setM P n = 0 then lstF (tvN 2 X) (tvN 7 X) h n V d else (topF P (-1) n, nI (d + 1))) := by rw [← hP]; rfl
      generalize hY : lstF (tvN 2 X) (tvN 7 X) h n V d = Y at es ⊢
      refine loopNA (α := Int32 × Int32) (L := fun k' a i M' => wp_X8_last_L74 K (wp_X8_last_L41 K c k) c (nI (setM (EsD (tvN 2 X) (tvN 7 X) h n V (d + 1)) n)) (nI (d + 1)) (nI (setM P n)) k' a.1 a.2 i M') n (fun i a M' => M' = M2 ∧ a = (topF P Y.1 i, if setM P i = 0 then Y.2 else nI (d + 1))) ?_ 0 (a := (Y.1, Y.2)) (Nat.zero_le _) ⟨rfl, rfl⟩
      intro x a M3 k' hx hs2 ih2
      obtain ⟨rfl, rfl⟩ := hs2
      show wp_X8_last_l74 K (wp_X8_last_L41 K c k) c (nI (setM (EsD (tvN 2 X) (tvN 7 X) h n V (d + 1)) n)) (nI (d + 1)) (nI (setM P n)) (wp_X8_last_L74 K (wp_X8_last_L41 K c k) c (nI (setM (EsD (tvN 2 X) (tvN 7 X) h n V (d + 1)) n)) (nI (d + 1)) (nI (setM P n)) k') (topF P Y.1 x) (if setM P x = 0 then Y.2 else nI (d + 1)) (nI x) M3
      unfold wp_X8_last_l74
      rw [h2.2.2.2.1]
      refine ⟨fun q => ?_, fun q => ?_⟩
      · have : x = n := by have := le_of_nI q (by omega) (by omega); omega
        subst this
        rw [nI_1]
        refine ih (topF P Y.1 x, (if setM P x = 0 then Y.2 else nI (d + 1)), nI (setM (EsD (tvN 2 X) (tvN 7 X) h x V (d + 1)) x)) _ (by omega) ⟨by omega, h2, ?_⟩
        rw [es]
        by_cases c0 : setM P x = 0
        · have hnone : ∀ q, q < x → P q = false := (set_0 (P := P) (m := x) (by omega)).mp (by rw [c0]; rfl)
          rw [if_pos c0, if_pos c0, topF_none x hnone]
        · have hsome : ∃ q, q < x ∧ P q = true := by
            by_cases hc : ∃ q, q < x ∧ P q = true
            · exact hc
            · exact absurd ((nI_eq (b := 0) (by have := setM_lt (P := P) x; omega) (by omega)).mp ((set_0 (P := P) (m := x) (by omega)).mpr (fun q hq => Bool.eq_false_iff.mpr (fun e => hc ⟨q, hq, e⟩)))) c0
          rw [if_neg c0, if_neg c0, topF_some (d2 := -1) x hsome]
      · have hx2 : x < n := lt_of_nI q (by omega) (by omega)
        rw [set_at (by omega) (by omega)]
        unfold wp_X8_last_b101
        have et : topF P Y.1 (x + 1) = (if P x = true then nI x else topF P Y.1 x) := rfl
        by_cases c0 : P x = true
        · rw [if_pos ⟨hx2, c0⟩]
          refine ⟨fun e => absurd rfl e, fun _ => ⟨fun e => absurd e (by decide), fun _ => ⟨fun e => absurd e (by decide), fun _ => ?_⟩⟩⟩
          rw [nI_1]
          refine ih2 (nI x, nI (d + 1)) _ hx2 ⟨rfl, ?_⟩
          have hl := Nat.two_pow_pos x
          rw [et, if_pos c0, setM_s, if_pos c0, if_neg (by omega)]
        · rw [if_neg (fun e => c0 e.2)]
          refine ⟨fun _ => ⟨fun _ => ⟨fun _ => ?_, fun e => absurd rfl e⟩, fun e => absurd rfl e⟩, fun e => absurd e (by decide)⟩
          rw [nI_1]
          refine ih2 (_, _) _ hx2 ⟨rfl, ?_⟩
          rw [et, if_neg c0, setM_s, if_neg c0]
          rfl
  · rw [if_neg g] at hk
    exact e8A (i := 1) (by omega) (by omega) (by decide) St.rf hk
theorem z3_last {c : Int32} (hI : Inv2 i M) : wp_X7_last c M (fun r1 M1 => wp_X8_last c M1 (fun r2 M2 => r1 = r2 ∧ Inv2 (i + 1) M2)) := by
  obtain ⟨n, b, t, V, h, hS⟩ := hI.2.1
  exact z_of (A := lstA (tvN 2 M) (tvN 7 M) h n V c) (W7 := wp_X7_last c) (W8 := wp_X8_last c) hI (fun K hk => C_last hS hk) (fun M1 h1 K hk => G_last (hS.gh (h1 80 rfl)) hk)
end AP
