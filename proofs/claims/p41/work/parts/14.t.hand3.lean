section AT
variable {n b t i : Nat} {h : Nat → Int32} {V : Nat → Nat} {M X : Mem} {K : Int32 → Mem → Prop}
theorem k_itHangs {j : Nat} (hG : RG 12 n h V M) (hH : HH n h) (hn : n ≤ 9) (hj : j < n) (hk : K (nI (setM (chC h j) n)) M) : wp_X0_setItHangsOn 12 (nI j) M K := by
  unfold wp_X0_setItHangsOn
  rw [shl_n10 (by omega), ← set_one (j := j) n hj]
  refine loopDA (L := fun k a i M' => wp_X0_setItHangsOn_L6 K 12 k a i M') (fun i a M' => i ≤ j ∧ M' = M ∧ ∃ P : Nat → Bool, a = nI (setM P n) ∧ itS h i P = chC h j) ?_ j (a := nI (setM (fun r => decide (r = j)) n)) ⟨Nat.le_refl j, rfl, _, rfl, rfl⟩
  intro i a M' k hi ih
  obtain ⟨hij, rfl, P, rfl, hP⟩ := hi
  show wp_X0_setItHangsOn_l6 K 12 (wp_X0_setItHangsOn_L6 K 12 k) (nI (setM P n)) (nI i) M'
  unfold wp_X0_setItHangsOn_l6
  rw [set_at (by omega) (by omega)]
  refine ⟨fun q => ?_, fun q => ?_⟩
  · have : i = 0 := by have := le_of_nI (b := 0) q (by omega) (by omega); omega
    subst this
    have hP : P = chC h j := hP
    rw [hP]; exact hk
  · obtain ⟨x, rfl⟩ : ∃ x, i = x + 1 := ⟨i - 1, by
      rcases Nat.eq_zero_or_pos i with e | e
      · subst e; exact absurd (by decide) q
      · omega⟩
    have hxn : x + 1 < n := by omega
    have hP : itS h x (if P (x + 1) = true ∧ ¬ h (x + 1) < 0 then fun r => P r || decide (r = (h (x + 1)).toNatClampNeg) else P) = chC h j := hP
    have p5 : M' (12 + 2 + (x + 1)) 4 = h (x + 1) := (hG.2.2.2.2.2 (x + 1) hxn).2.2.2.2.1
    rw [GF12.one (by omega), p5, nI_dec]
    have same : ¬ (P (x + 1) = true ∧ ¬ h (x + 1) < 0) → wp_X0_setItHangsOn_L6 K 12 k (nI (setM P n)) (nI x) M' := fun c => ih x _ M' rfl ⟨by omega, rfl, P, rfl, by rw [if_neg c] at hP; exact hP⟩
    refine ⟨fun e => same (fun c => ?_), fun e => ⟨GF12.vp (by omega), fun e2 => same (fun c => c.2 e2), fun e2 => ⟨GF12.vp (by omega), ?_⟩⟩⟩
    · rw [if_pos ⟨hxn, c.1⟩] at e; exact absurd e (by decide)
    · have hpx : P (x + 1) = true := by
        by_cases c : x + 1 < n ∧ P (x + 1) = true
        · exact c.2
        · rw [if_neg c] at e; exact absurd rfl e
      rw [if_pos ⟨hpx, e2⟩] at hP
      rcases hH (x + 1) hxn with g | ⟨y, hy, g⟩
      · rw [g] at e2; exact absurd (by decide) e2
      · rw [g, nI_clamp (by omega)] at hP
        rw [g, shl_n10 (by omega), ← set_one (j := y) n (by omega), set_or (by omega)]
        rintro _ rfl
        exact ih x _ M' rfl ⟨by omega, rfl, _, rfl, hP⟩
theorem k_sharpen {s : Nat} {M0 : Mem} {K : Mem → Prop} (hs : s < 2 ^ 31) (hn : n ≤ 9) (hT : TH n h V M0 M) (hk : ∀ M1, TH n h (shV (tbS s) n V) M0 M1 → K M1) : wp_X0_sharpen 49 (nI s) M K := by
  unfold wp_X0_sharpen
  refine loopN (L := fun k i M' => wp_X0_sharpen_L2 K 49 (nI s) k i M') n (fun i M' => TH n h (shV (tbS s) i V) M0 M') ?_ 0 (Nat.zero_le _) hT
  intro i M' k hi hs2 ih
  show wp_X0_sharpen_l2 K 49 (nI s) (wp_X0_sharpen_L2 K 49 (nI s) k) (nI i) M'
  unfold wp_X0_sharpen_l2
  rw [hs2.2.1.1]
  refine ⟨fun q => ?_, fun q => ?_⟩
  · have : i = n := by have := le_of_nI q (by omega) (by omega); omega
    subst this; exact hk _ hs2
  · have hi2 : i < n := lt_of_nI q (by omega) (by omega)
    have es : shV (tbS s) (i + 1) V = (if tbS s i = true then adf (shV (tbS s) i V) (14 + 7 * i) 99 else shV (tbS s) i V) := rfl
    rw [nI_1, GF49.one (by omega), tb_at hs (by omega)]
    refine ⟨fun e => ih _ hi2 ?_, fun e => ⟨GF49.vp (by omega), ih _ hi2 ?_⟩⟩
    · have c : ¬ tbS s i = true := fun c => by rw [if_pos c] at e; exact absurd e (by decide)
      rw [es, if_neg c]; exact hs2
    · have c : tbS s i = true := by
        by_cases c : tbS s i = true
        · exact c
        · rw [if_neg c] at e; exact absurd rfl e
      rw [es, if_pos c]
      exact hs2.put (s := 14) (k := 3) (x := 99) hi2 hn (Or.inl ⟨rfl, rfl⟩)
def hndA (lg lh : Nat → Nat → Nat → Nat) (h : Nat → Int32) (n : Nat) (V : Nat → Nat) (q a : Int32) : Ans := if (0 ≤ q.toInt ∧ q.toInt < n) ∧ 0 ≤ a.toInt ∧ a.toInt ≤ 20 then (if 0 ≤ bst (okM lg lh h n V q.toNatClampNeg a.toNatClampNeg) (2 ^ n) then (bst (okM lg lh h n V q.toNatClampNeg a.toNatClampNeg) (2 ^ n), 0) else erA 2) else erA 1
theorem C_hand {q a : Int32} (hS : SA 1 80 n b t V h M) (hk : ∀ M1, PC (hndA (tvN 2 M) (tvN 7 M) h n V q a).2 M M1 → K (hndA (tvN 2 M) (tvN 7 M) h n V q a).1 M1) : wp_X7_hand q a M K := by
  have h9 := hS.v0
  have hn := hS.rv.1
  have hp := pow_9 hn
  unfold wp_X7_hand
  unfold hndA at hk
  have bad : ¬ ((0 ≤ q.toInt ∧ q.toInt < n) ∧ 0 ≤ a.toInt ∧ a.toInt ≤ 20) → wp_X7_refuse (-1000000001) M K := fun g => by
    rw [if_neg g] at hk
    exact e7A (i := 1) (by omega) (by omega) (by decide) St.rf hk
  refine q7z hn hS.1.1 (fun j hj ej => ?_) (fun g => bad (fun x => g x.1))
  refine w7n 0 20 (by decide) (by decide) (fun g3 g4 => ?_) (fun g => bad (fun x => g x.2))
  rw [if_pos ⟨by rw [ej, nI_toInt (by omega)]; omega, g3, g4⟩] at hk
  obtain ⟨N, hN, rfl⟩ := nat_of (x := a) 20 g3 g4 (by decide)
  subst ej
  rw [nI_clamp (by omega), nI_clamp (by omega), ← bst_hand hS.hh hn hj] at hk
  refine k_itHangs hS.1 hS.hh hn hj (k_setEnded GF12 hS.1 hS.rv ?_)
  have e9 : nI (setM (chC h j) n) &&& (nI (endM V n) ^^^ (-1)) = nI (setM (hpH h n V j) 9) := by
    rw [endM_set, set_and_not (by omega)]
    congr 1
    have : ∀ k, n ≤ k → k ≤ 9 → setM (fun q => chC h j q && !decide (V (16 + 7 * q) ≠ 0)) n = setM (hpH h n V j) k := by
      intro k
      induction k with
      | zero => intro h1 _; rw [show n = 0 by omega]; rfl
      | succ k ih =>
        intro h1 h2
        rcases Nat.lt_or_ge k n with g | g
        · have : n = k + 1 := by omega
          rw [← this]
          refine setM_congr n (fun q hq => ?_)
          show (chC h j q && !decide (V (16 + 7 * q) ≠ 0)) = (decide (q < n) && (chC h j q && !enH V q))
          rw [decide_eq_true hq, Bool.true_and]; rfl
        · rw [ih g (by omega), setM_s, if_neg]
          intro c
          unfold hpH at c
          rw [decide_eq_false (by omega), Bool.false_and] at c; cases c
    exact this 9 hn (Nat.le_refl 9)
  rw [e9]
  refine loopNA (L := fun k a i M' => wp_X7_hand_L56 K (nI j) (nI N) (nI (setM (hpH h n V j) 9)) k a i M') 512 (fun i a M' => St SY M M' ∧ a = bst (okC (tvN 2 M) (tvN 7 M) h n V j N) i) ?_ 0 (Nat.zero_le _) ⟨St.rf, rfl⟩
  intro i a M' k hi hs ih
  obtain ⟨hs, rfl⟩ := hs
  show wp_X7_hand_l56 K (nI j) (nI N) (nI (setM (hpH h n V j) 9)) (wp_X7_hand_L56 K (nI j) (nI N) (nI (setM (hpH h n V j) 9)) k) (bst (okC (tvN 2 M) (tvN 7 M) h n V j N) i) (nI i) M'
  unfold wp_X7_hand_l56
  refine ⟨fun q => ?_, fun q => ?_⟩
  · have : i = 512 := by have := le_of_nI (a := 512) q (by omega) (by omega); omega
    subst this
    generalize bst (okC (tvN 2 M) (tvN 7 M) h n V j N) 512 = Y at hk ⊢
    refine ⟨fun e => ?_, fun e => ?_⟩
    · rw [if_pos e] at hk; exact hk _ (PC.of hs)
    · rw [if_neg e] at hk
      exact e7A (i := 2) (by omega) (by omega) (by decide) hs hk
  · have hi2 : i < 512 := lt_of_nI (a := 512) q (by omega) (by omega)
    have es := bst_s (ok := okC (tvN 2 M) (tvN 7 M) h n V j N) (s := i)
    have hbc := bst_c (ok := okC (tvN 2 M) (tvN 7 M) h n V j N) i hi
    generalize hY : bst (okC (tvN 2 M) (tvN 7 M) h n V j N) i = Y at es hbc ⊢
    have e6 : nI i &&& (nI (setM (hpH h n V j) 9) ^^^ (-1)) = nI (setM (fun q => tbS i q && !hpH h n V j q) 9) := by
      have := set_and_not (P := tbS i) (Q := hpH h n V j) (m := 9) (by omega)
      rw [set_tb (show i < 2 ^ 9 by omega)] at this; exact this
    have hl9 := setM_lt (P := fun q => tbS i q && !hpH h n V j q) 9
    have hb : ∀ f : Int32, (f = 0 → ¬ (Y < 0 ∨ pcN i < pcN Y.toNatClampNeg)) → (¬ f = 0 → (Y < 0 ∨ pcN i < pcN Y.toNatClampNeg)) → wp_X7_hand_b87 K (wp_X7_hand_L56 K (nI j) (nI N) (nI (setM (hpH h n V j) 9)) k) (nI j) (nI N) (nI (setM (hpH h n V j) 9)) Y (nI i) f M' := fun f f0 f1 => by
      unfold wp_X7_hand_b87
      rw [nI_1, e6]
      have stay : ∀ M1, St SY M M1 → ¬ (okC (tvN 2 M) (tvN 7 M) h n V j N i = true ∧ (Y < 0 ∨ pcN i < pcN Y.toNatClampNeg)) → wp_X7_hand_L56 K (nI j) (nI N) (nI (setM (hpH h n V j) 9)) k Y (nI (i + 1)) M1 := fun M1 s1 c => ih _ _ hi2 ⟨s1, by rw [es, if_neg c]⟩
      refine ⟨fun e => stay M' hs (fun c => e ?_), fun e => ⟨fun e2 => stay M' hs (fun c => f0 e2 c.2), fun e2 => ?_⟩⟩
      · have h1 := c.1
        unfold okC at h1
        rw [Bool.and_eq_true] at h1
        rw [of_decide_eq_true h1.1]; rfl
      · have hz : setM (fun q => tbS i q && !hpH h n V j q) 9 = 0 := (nI_eq (b := 0) (by omega) (by omega)).mp e
        have h0' : shV (tbS i) n V 0 = V 0 := shV_o n (fun q _ => by omega)
        have hrv := rv_shV (S := tbS i) hS.rv n (Nat.le_refl n)
        refine k_think hS.sc hs (fun M1 h1 => k_sharpen (by omega) hn h1 (fun M2 h2 => k_ends (by omega) hj hS.sc hrv (by omega) h2 (fun M3 h3 => ?_)))
        rw [pass_9 (by omega)]
        have w5 := ((rv_pass (lg := tvN 2 M) (lh := tvN 7 M) (wh := true) (h := h) hrv N (by omega)).1.2.2.2.2.2.2 j hj).2.2.2.2.1
        refine ⟨fun e3 => stay M3 h3 (fun c => ?_), fun e3 => ih _ _ hi2 ⟨h3, ?_⟩⟩
        · have c0 := (nI_eq (b := 0) (by omega) (by omega)).mp e3
          have h1 := c.1
          unfold okC wkH at h1
          rw [Bool.and_eq_true] at h1
          exact of_decide_eq_true h1.2 c0
        · have c0 : passN (tvN 2 M) (tvN 7 M) true h n N (shV (tbS i) n V) (16 + 7 * j) ≠ 0 := fun c => e3 (by rw [c]; rfl)
          rw [es, if_pos]
          refine ⟨?_, f1 e2⟩
          unfold okC wkH
          rw [Bool.and_eq_true]
          exact ⟨decide_eq_true hz, decide_eq_true c0⟩
    rcases hbc with ⟨e, -⟩ | ⟨bb, hbb, e, -⟩
    · subst e
      exact ⟨fun _ => hb 1 (fun g => absurd g (by decide)) (fun _ => Or.inl (by decide)), fun g => absurd (by decide) g⟩
    · subst e
      have hclb : (nI bb).toNatClampNeg = bb := nI_clamp (by omega)
      have hl1 := pcN_le i
      have hl2 := pcN_le bb
      refine ⟨fun g => absurd g (nI_pos (by omega)), fun _ => x_bitCount (by omega) (x_bitCount (by omega) (pk_le (pcN bb) (pcN i) (fun g => hb 0 (fun _ c => ?_) (fun g => absurd rfl g)) (fun g => hb 1 (fun g => absurd g (by decide)) (fun _ => Or.inr (by rw [hclb]; exact g)))))⟩
      rw [hclb] at c
      rcases c with c | c
      · exact absurd c (nI_pos (by omega))
      · omega
theorem u_isOverBy {j N s : Nat} (hs : s < 2 ^ 31) (hN : N ≤ 60) (hj : j < n) (hR : RR n h V (M 80)) (hV : RV n V) (hH : HH n h) (hT2 : TQ 2 0 (M 80) X) (hT7 : TQ 7 1 (M 80) X) (h9 : V 0 ≤ 9999) (hk : ∀ M1, St SMz M M1 → K (if wkH (tvN 2 X) (tvN 7 X) h n V j N s = true then 1 else 0) M1) : wp_X8_isOverBy (nI j) (nI N) (nI s) M K := by
  have hn := hV.1
  unfold wp_X8_isOverBy
  refine u_go St.rf hR (fun M1 h1 => ?_)
  refine loopN (L := fun k i M' => wp_X8_isOverBy_L15 K (nI j) (nI N) (nI s) k i M') n (fun i M' => GT n h (shV (tbS s) i V) M M') ?_ 0 (Nat.zero_le _) h1
  intro i M' k hi hg ih
  show wp_X8_isOverBy_l15 K (nI j) (nI N) (nI s) (wp_X8_isOverBy_L15 K (nI j) (nI N) (nI s) k) (nI i) M'
  unfold wp_X8_isOverBy_l15
  rw [hg.2.2.2.1]
  have es : shV (tbS s) (i + 1) V = (if tbS s i = true then adf (shV (tbS s) i V) (14 + 7 * i) 99 else shV (tbS s) i V) := rfl
  refine ⟨fun q => ?_, fun q => ?_⟩
  · have : i = n := by have := le_of_nI q (by omega) (by omega); omega
    subst this
    have h0' : shV (tbS s) i V 0 = V 0 := shV_o i (fun q _ => by omega)
    have hrv := rv_shV (S := tbS s) hV i (Nat.le_refl i)
    refine u_passes hN hg hrv (by omega) hH hT2 hT7 (fun M2 h2 => ?_)
    have hv2 := (rv_pass (lg := tvN 2 X) (lh := tvN 7 X) (wh := true) (h := h) hrv N (by omega)).1
    refine g_over h2.2.2.2 hv2 hj (fun c => u_back h2 (fun M3 h3 => ⟨Or.inr rfl, ?_⟩)) (fun c => u_back h2 (fun M3 h3 => ⟨Or.inl rfl, ?_⟩))
    · have hk := hk M3 h3
      unfold wkH at hk
      rw [if_pos (decide_eq_true c)] at hk; exact hk
    · have hk := hk M3 h3
      unfold wkH at hk
      rw [if_neg (by rw [c]; decide)] at hk; exact hk
  · have hi2 : i < n := lt_of_nI q (by omega) (by omega)
    rw [nI_1, tb_at hs (by omega)]
    refine ⟨fun e => ?_, fun e => ?_⟩
    · have c : ¬ tbS s i = true := fun c => by rw [if_pos c] at e; exact absurd rfl e
      refine i_it 3 (14 + 7 * i) hn hg.2.2.2 hi2 (by omega) (i_gets 3 (14 + 7 * i) _ hn hg.2.2.2 hi2 (by omega) (fun hr => ih _ hi2 ?_))
      rw [es, if_neg c]
      have ea : adf (shV (tbS s) i V) (14 + 7 * i) (shV (tbS s) i V (14 + 7 * i)) = shV (tbS s) i V := by
        funext k
        by_cases c : k = 14 + 7 * i
        · rw [c, adf_s]
        · rw [adf_o c]
      rw [ea] at hr
      exact hg.smv (SMV.rf.put (vol_on (w := 3) (by omega) (by omega))) hr
    · have c : tbS s i = true := by
        by_cases c : tbS s i = true
        · exact c
        · rw [if_neg c] at e; exact absurd e (by decide)
      refine i_gets 3 (14 + 7 * i) 99 hn hg.2.2.2 hi2 (by omega) (fun hr => ih _ hi2 ?_)
      rw [es, if_pos c]
      exact hg.smv (SMV.rf.put (vol_on (w := 3) (by omega) (by omega))) hr
theorem G_hand {q a : Int32} (hG : GH n h V X M) (hk : ∀ M1, PM (hndA (tvN 2 X) (tvN 7 X) h n V q a).2 M M1 → K (hndA (tvN 2 X) (tvN 7 X) h n V q a).1 M1) : wp_X8_hand q a M K := by
  obtain ⟨hR, hV, hH, hT2, hT7, h9⟩ := hG
  have hn := hV.1
  have hp := pow_9 hn
  unfold wp_X8_hand
  unfold hndA at hk
  have bad : ¬ ((0 ≤ q.toInt ∧ q.toInt < n) ∧ 0 ≤ a.toInt ∧ a.toInt ≤ 20) → wp_X8_errs (-1000000001) M K := fun g => by
    rw [if_neg g] at hk
    exact e8A (i := 1) (by omega) (by omega) (by decide) St.rf hk
  refine q8z hn hR.1 (fun j hj ej => ?_) (fun g => bad (fun x => g x.1))
  refine w8n 0 20 (by decide) (by decide) (fun g3 g4 => ?_) (fun g => bad (fun x => g x.2))
  rw [if_pos ⟨by rw [ej, nI_toInt (by omega)]; omega, g3, g4⟩] at hk
  obtain ⟨N, hN, rfl⟩ := nat_of (x := a) 20 g3 g4 (by decide)
  subst ej
  rw [nI_clamp (by omega), nI_clamp (by omega)] at hk
  refine g_overSet hR hV ?_
  rw [endM_set]
  refine loopNA (L := fun k a i M' => wp_X8_hand_L36 K (nI j) (nI N) (nI (setM (enH V) n)) k a i M') (2 ^ n) (fun i a M' => St SMz M M' ∧ a = bst (okM (tvN 2 X) (tvN 7 X) h n V j N) i) ?_ 0 (Nat.zero_le _) ⟨St.rf, rfl⟩
  intro i a M' k hi hs ih
  obtain ⟨hs, rfl⟩ := hs
  show wp_X8_hand_l36 K (nI j) (nI N) (nI (setM (enH V) n)) (wp_X8_hand_L36 K (nI j) (nI N) (nI (setM (enH V) n)) k) (bst (okM (tvN 2 X) (tvN 7 X) h n V j N) i) (nI i) M'
  unfold wp_X8_hand_l36
  have e80 : M' 80 = M 80 := hs 80 rfl
  rw [e80, hR.1, shl_n10 (by omega)]
  refine ⟨fun q => ?_, fun q => ?_⟩
  · have : i = 2 ^ n := by have := le_of_nI q (by omega) (by omega); omega
    rw [this]
    generalize bst (okM (tvN 2 X) (tvN 7 X) h n V j N) (2 ^ n) = Y at hk ⊢
    refine ⟨fun e => ?_, fun e => ?_⟩
    · rw [if_pos e] at hk; exact hk _ (PM.of hs)
    · rw [if_neg e] at hk
      exact e8A (i := 2) (by omega) (by omega) (by decide) hs hk
  · have hi2 : i < 2 ^ n := lt_of_nI q (by omega) (by omega)
    have es := bst_s (ok := okM (tvN 2 X) (tvN 7 X) h n V j N) (s := i)
    have hbc := bst_c (ok := okM (tvN 2 X) (tvN 7 X) h n V j N) i (by omega)
    generalize hY : bst (okM (tvN 2 X) (tvN 7 X) h n V j N) i = Y at es hbc ⊢
    have e6 : nI i &&& nI (setM (enH V) n) = nI (setM (fun q => tbS i q && enH V q) n) := by
      have := set_and (P := tbS i) (Q := enH V) (m := n) (by omega)
      rw [set_tb hi2] at this; exact this
    have hl9 := setM_lt (P := fun q => tbS i q && enH V q) n
    have stay : ∀ M1, St SMz M M1 → ¬ (okM (tvN 2 X) (tvN 7 X) h n V j N i = true ∧ (Y < 0 ∨ pcN i < pcN Y.toNatClampNeg)) → wp_X8_hand_L36 K (nI j) (nI N) (nI (setM (enH V) n)) k Y (nI (i + 1)) M1 := fun M1 s1 c => ih _ _ hi2 ⟨s1, by rw [es, if_neg c]⟩
    rw [nI_1, e6]
    refine ⟨fun e => stay M' hs (fun c => e ?_), fun e => ?_⟩
    · have h1 := c.1
      unfold okM at h1
      rw [Bool.and_eq_true] at h1
      rw [of_decide_eq_true h1.1]; rfl
    · have hz : setM (fun q => tbS i q && enH V q) n = 0 := (nI_eq (b := 0) (by omega) (by omega)).mp e
      have try_ : (Y < 0 ∨ pcN i < pcN Y.toNatClampNeg) → wp_X8_isOverBy (nI j) (nI N) (nI i) M' (fun r M3 => (r = 0 → wp_X8_hand_L36 K (nI j) (nI N) (nI (setM (enH V) n)) k Y (nI (i + 1)) M3) ∧ (¬ r = 0 → wp_X8_hand_L36 K (nI j) (nI N) (nI (setM (enH V) n)) k (nI i) (nI (i + 1)) M3)) := fun hf =>
        u_isOverBy (by omega) (by omega) hj (by rw [e80]; exact hR) hV hH (by rw [e80]; exact hT2) (by rw [e80]; exact hT7) h9 (fun M3 h3 => by
          by_cases c : wkH (tvN 2 X) (tvN 7 X) h n V j N i = true
          · rw [if_pos c]
            refine ⟨fun g => absurd g (by decide), fun _ => ih _ _ hi2 ⟨hs.tr h3, ?_⟩⟩
            rw [es, if_pos]
            refine ⟨?_, hf⟩
            unfold okM
            rw [Bool.and_eq_true]
            exact ⟨decide_eq_true hz, c⟩
          · rw [if_neg c]
            refine ⟨fun _ => stay M3 (hs.tr h3) (fun x => c ?_), fun g => absurd rfl g⟩
            have h1 := x.1
            unfold okM at h1
            rw [Bool.and_eq_true] at h1
            exact h1.2)
      rcases hbc with ⟨e1, -⟩ | ⟨bb, hbb, e1, -⟩
      · subst e1
        exact ⟨fun _ => try_ (Or.inl (by decide)), fun g => absurd (by decide) g⟩
      · subst e1
        have hclb : (nI bb).toNatClampNeg = bb := nI_clamp (by omega)
        have hl1 := pcN_le i
        have hl2 := pcN_le bb
        refine ⟨fun g => absurd g (nI_pos (by omega)), fun _ => g_bits (by omega) (g_bits (by omega) (pk_le (pcN bb) (pcN i) (fun g => stay M' hs (fun c => ?_)) (fun g => try_ (Or.inr (by rw [hclb]; exact g)))))⟩
        have c2 := c.2
        rw [hclb] at c2
        rcases c2 with c2 | c2
        · exact absurd c2 (nI_pos (by omega))
        · omega
theorem z3_hand {q a : Int32} (hI : Inv2 i M) : wp_X7_hand q a M (fun r1 M1 => wp_X8_hand q a M1 (fun r2 M2 => r1 = r2 ∧ Inv2 (i + 1) M2)) := by
  obtain ⟨n, b, t, V, h, hS⟩ := hI.2.1
  exact z_of (A := hndA (tvN 2 M) (tvN 7 M) h n V q a) (W7 := wp_X7_hand q a) (W8 := wp_X8_hand q a) hI (fun K hk => C_hand hS hk) (fun M1 h1 K hk => G_hand (hS.gh (h1 80 rfl)) hk)
end AT
